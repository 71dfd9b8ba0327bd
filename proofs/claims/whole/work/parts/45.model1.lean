set_option maxHeartbeats 4000000 in
set_option maxRecDepth 100000 in
theorem ct_X8_no (L : LL) (o : Nat) (u : Nat → Nat) (S : OS) (v1 : Int32) (x : (Int32 × OS)) (h : f_X8_no S v1 = some x) : Ct L yX8_no cX8_no 2 (some .int) (rmk 0 0 0 0) 0 0 [.ref o, .int v1] (cells8 L o u S) (Pv (some (.int x.1)) (cells8 L o u x.2)) := by
  refine g_enter (lv := [(0, .ref o), (1, .int v1)]) kX8_no rfl rfl (Nat.le_of_ble_eq_true rfl) (fun Γ C E hNL => ?_)
  unfold f_X8_no at h
  refine g_aload_n C 1 0 dX8_no_0 rfl rfl ?_
  refine g_get (v := .ref (u 0)) C 4 8 0 0 hin_8 rfl rfl (by decide) wf_X8_7 rfl dX8_no_1 rfl ?_
  refine g_iload_n C 5 1 dX8_no_4 rfl rfl ?_
  refine g_ineg C 6 dX8_no_5 rfl ?_
  refine g_dup2 C 7 dX8_no_6 rfl rfl rfl ?_
  refine grdE h (fun hb h => ?_)
  refine g_iald (f := (S.2 0)) C 8 1 rfl hb dX8_no_7 rfl ?_
  refine g_iconst C 9 (1 : Int32) dX8_no_8 rfl rfl ?_
  refine g_iadd C 10 dX8_no_9 rfl ?_
  refine grdE h (fun hb h => ?_)
  refine g_iast (f := (S.2 0)) (w' := (cells8 L o u (sa S 0 (upd (S.2 0) ((-v1)).toNatClampNeg (((S.2 0) ((-v1)).toNatClampNeg) + (1 : Int32)))))) C 11 1 rfl hb dX8_no_10 rfl rfl ?_
  refine g_iload_n C 12 1 dX8_no_11 rfl rfl ?_
  exact g_iret (st := []) C E dX8_no_12 (by obtain rfl := Option.some.inj h; exact ⟨rfl, rfl⟩)
set_option maxHeartbeats 4000000 in
set_option maxRecDepth 100000 in
theorem ct_X8_lowest (L : LL) (o : Nat) (u : Nat → Nat) (S : OS) (v1 : Int32) (x : (Int64 × OS)) (h : f_X8_lowest S v1 = some x) : Ct L yX8_lowest cX8_lowest 2 (some .long) (rmk 0 0 0 0) 0 0 [.ref o, .int v1] (cells8 L o u S) (Pv (some (.long x.1)) (cells8 L o u x.2)) := by
  refine g_enter (lv := [(0, .ref o), (1, .int v1)]) kX8_lowest rfl rfl (Nat.le_of_ble_eq_true rfl) (fun Γ C E hNL => ?_)
  unfold f_X8_lowest at h
  refine g_aload_n C 1 0 dX8_lowest_0 rfl rfl ?_
  refine g_get (v := .ref (u 0)) C 4 8 0 0 hin_8 rfl rfl (by decide) wf_X8_7 rfl dX8_lowest_1 rfl ?_
  refine g_iload_n C 5 1 dX8_lowest_4 rfl rfl ?_
  refine g_ineg C 6 dX8_lowest_5 rfl ?_
  refine g_dup2 C 7 dX8_lowest_6 rfl rfl rfl ?_
  refine grdE h (fun hb h => ?_)
  refine g_iald (f := (S.2 0)) C 8 1 rfl hb dX8_lowest_7 rfl ?_
  refine g_iconst C 9 (1 : Int32) dX8_lowest_8 rfl rfl ?_
  refine g_iadd C 10 dX8_lowest_9 rfl ?_
  refine grdE h (fun hb h => ?_)
  refine g_iast (f := (S.2 0)) (w' := (cells8 L o u (sa S 0 (upd (S.2 0) ((-v1)).toNatClampNeg (((S.2 0) ((-v1)).toNatClampNeg) + (1 : Int32)))))) C 11 1 rfl hb dX8_lowest_10 rfl rfl ?_
  refine g_ldc2 (v := (4000000000000000000 : Int64)) C 14 dX8_lowest_11 rfl wc_X8_59 ?_
  refine g_iload_n C 15 1 dX8_lowest_14 rfl rfl ?_
  refine g_i2l C 16 dX8_lowest_15 rfl ?_
  refine g_lsub C 17 dX8_lowest_16 rfl ?_
  exact g_lret (st := []) C E dX8_lowest_17 (by obtain rfl := Option.some.inj h; exact ⟨rfl, rfl⟩)
set_option maxHeartbeats 4000000 in
set_option maxRecDepth 100000 in
theorem ct_X8_isIn (L : LL) (v0 : Int32) (v1 : Int32) (v2 : Int32) (x : Int32) (h : f_X8_isIn v0 v1 v2 = some x) : Ct L yX8_isIn cX8_isIn 3 (some .boolean) (rmk 0 0 0 0) 0 0 [.int v0, .int v1, .int v2] [] (Pv (some (.int x)) []) := by
  refine g_enter (lv := [(0, .int v0), (1, .int v1), (2, .int v2)]) kX8_isIn rfl rfl (Nat.le_of_ble_eq_true rfl) (fun Γ C E hNL => ?_)
  unfold f_X8_isIn at h
  refine g_iload_n C 1 0 dX8_isIn_0 rfl rfl ?_
  refine g_iload_n C 2 1 dX8_isIn_1 rfl rfl ?_
  refine g_icmp_lt C 14 5 dX8_isIn_2 (by decide) rfl (fun c => ?_) (fun c => ?_)
  · have h := ifT c h
    refine g_iconst C 15 (0 : Int32) dX8_isIn_14 rfl rfl ?_
    exact g_zret (st := []) C E dX8_isIn_15 rfl (by obtain rfl := Option.some.inj h; exact ⟨rfl, rfl⟩)
  · have h := ifF c h
    refine g_iload_n C 6 0 dX8_isIn_5 rfl rfl ?_
    refine g_iload_n C 7 2 dX8_isIn_6 rfl rfl ?_
    refine g_icmp_gt C 14 10 dX8_isIn_7 (by decide) rfl (fun c => ?_) (fun c => ?_)
    · have h := ifT c h
      refine g_iconst C 15 (0 : Int32) dX8_isIn_14 rfl rfl ?_
      exact g_zret (st := []) C E dX8_isIn_15 rfl (by obtain rfl := Option.some.inj h; exact ⟨rfl, rfl⟩)
    · have h := ifF c h
      refine g_iconst C 11 (1 : Int32) dX8_isIn_10 rfl rfl ?_
      refine g_goto C 15 dX8_isIn_11 (by decide) ?_
      exact g_zret (st := []) C E dX8_isIn_15 rfl (by obtain rfl := Option.some.inj h; exact ⟨rfl, rfl⟩)
set_option maxHeartbeats 4000000 in
set_option maxRecDepth 100000 in
theorem ct_X8_bound (L : LL) (v0 : Int32) (v1 : Int32) (v2 : Int32) (x : Int32) (h : f_X8_bound v0 v1 v2 = some x) : Ct L yX8_bound cX8_bound 3 (some .int) (rmk 0 0 0 0) 0 0 [.int v0, .int v1, .int v2] [] (Pv (some (.int x)) []) := by
  refine g_enter (lv := [(0, .int v0), (1, .int v1), (2, .int v2)]) kX8_bound rfl rfl (Nat.le_of_ble_eq_true rfl) (fun Γ C E hNL => ?_)
  unfold f_X8_bound at h
  refine g_iload_n C 1 0 dX8_bound_0 rfl rfl ?_
  refine g_iload_n C 2 1 dX8_bound_1 rfl rfl ?_
  refine g_icmp_ge C 10 5 dX8_bound_2 (by decide) rfl (fun c => ?_) (fun c => ?_)
  · have h := ifT c h
    refine g_iload_n C 11 0 dX8_bound_10 rfl rfl ?_
    refine g_iload_n C 12 2 dX8_bound_11 rfl rfl ?_
    refine g_icmp_le C 20 15 dX8_bound_12 (by decide) rfl (fun c => ?_) (fun c => ?_)
    · have h := ifT c h
      refine g_iconst C 21 (0 : Int32) dX8_bound_20 rfl rfl ?_
      exact g_iret (st := []) C E dX8_bound_21 (by obtain rfl := Option.some.inj h; exact ⟨rfl, rfl⟩)
    · have h := ifF c h
      refine g_bipush C 17 (-6 : Int32) dX8_bound_15 rfl rfl ?_
      refine g_goto C 21 dX8_bound_17 (by decide) ?_
      exact g_iret (st := []) C E dX8_bound_21 (by obtain rfl := Option.some.inj h; exact ⟨rfl, rfl⟩)
  · have h := ifF c h
    refine g_bipush C 7 (-4 : Int32) dX8_bound_5 rfl rfl ?_
    refine g_goto C 21 dX8_bound_7 (by decide) ?_
    exact g_iret (st := []) C E dX8_bound_21 (by obtain rfl := Option.some.inj h; exact ⟨rfl, rfl⟩)
set_option maxHeartbeats 4000000 in
set_option maxRecDepth 100000 in
theorem ct_X8_has (L : LL) (v0 : Int32) (v1 : Int32) (x : Int32) (h : f_X8_has v0 v1 = some x) : Ct L yX8_has cX8_has 2 (some .boolean) (rmk 0 0 0 0) 0 0 [.int v0, .int v1] [] (Pv (some (.int x)) []) := by
  refine g_enter (lv := [(0, .int v0), (1, .int v1)]) kX8_has rfl rfl (Nat.le_of_ble_eq_true rfl) (fun Γ C E hNL => ?_)
  unfold f_X8_has at h
  refine g_iload_n C 1 0 dX8_has_0 rfl rfl ?_
  refine g_iload_n C 2 1 dX8_has_1 rfl rfl ?_
  refine g_ishr C 3 dX8_has_2 rfl ?_
  refine g_iconst C 4 (1 : Int32) dX8_has_3 rfl rfl ?_
  refine g_iand C 5 dX8_has_4 rfl ?_
  refine g_iconst C 6 (1 : Int32) dX8_has_5 rfl rfl ?_
  refine g_icmp_ne C 13 9 dX8_has_6 (by decide) rfl (fun c => ?_) (fun c => ?_)
  · have h := ifF c h
    refine g_iconst C 14 (0 : Int32) dX8_has_13 rfl rfl ?_
    exact g_zret (st := []) C E dX8_has_14 rfl (by obtain rfl := Option.some.inj h; exact ⟨rfl, rfl⟩)
  · have h := ifT c h
    refine g_iconst C 10 (1 : Int32) dX8_has_9 rfl rfl ?_
    refine g_goto C 14 dX8_has_10 (by decide) ?_
    exact g_zret (st := []) C E dX8_has_14 rfl (by obtain rfl := Option.some.inj h; exact ⟨rfl, rfl⟩)
set_option maxHeartbeats 4000000 in
set_option maxRecDepth 100000 in
theorem ct_X8_bits (L : LL) (v0 : Int32) (x : Int32) (h : f_X8_bits v0 = some x) : Ct L yX8_bits cX8_bits 3 (some .int) (rmk 0 0 0 0) 0 0 [.int v0] [] (Pv (some (.int x)) []) := by
  refine g_enter (lv := [(0, .int v0)]) kX8_bits rfl rfl (Nat.le_of_ble_eq_true rfl) (fun Γ C E hNL => ?_)
  have J_4 : ∀ (n : Nat) (v0 : Int32) (v1 : Int32) (v2 : Int32), Lp2 (b_X8_bits_4   v0) n v1 v2 = some x → G L Γ 0 0 [] 4 [(0, .int v0), (1, .int v1), (2, .int v2)] [] := by
    intro n v0
    refine lp_ok2 (fun v1 v2 => G L Γ 0 0 [] 4 [(0, .int v0), (1, .int v1), (2, .int v2)] []) (fun k_4 hk_4 => ?_) n
    intro v1 v2 h
    unfold b_X8_bits_4 at h
    refine g_iload_n C 5 2 dX8_bits_4 rfl rfl ?_
    refine g_bipush C 7 (31 : Int32) dX8_bits_5 rfl rfl ?_
    refine g_icmp_ge C 24 10 dX8_bits_7 (by decide) rfl (fun c => ?_) (fun c => ?_)
    · have h := ifT c h
      refine g_iload_n C 25 1 dX8_bits_24 rfl rfl ?_
      exact g_iret (st := []) C E dX8_bits_25 (by obtain rfl := Option.some.inj h; exact ⟨rfl, rfl⟩)
    · have h := ifF c h
      refine g_iload_n C 11 1 dX8_bits_10 rfl rfl ?_
      refine g_iload_n C 12 0 dX8_bits_11 rfl rfl ?_
      refine g_iload_n C 13 2 dX8_bits_12 rfl rfl ?_
      refine g_ishr C 14 dX8_bits_13 rfl ?_
      refine g_iconst C 15 (1 : Int32) dX8_bits_14 rfl rfl ?_
      refine g_iand C 16 dX8_bits_15 rfl ?_
      refine g_iadd C 17 dX8_bits_16 rfl ?_
      refine g_istore_n C 18 1 [(1, .int (v1 + ((v0 >>> (v2 &&& 31)) &&& (1 : Int32)))), (0, .int v0), (2, .int v2)] dX8_bits_17 rfl rfl 3 hNL (by decide) rfl ?_
      refine g_iinc C 21 (1 : Int32) 2 [(2, .int (v2 + (1 : Int32))), (1, .int (v1 + ((v0 >>> (v2 &&& 31)) &&& (1 : Int32)))), (0, .int v0)] dX8_bits_18 rfl rfl 3 hNL (by decide) rfl rfl ?_
      refine g_goto C 4 dX8_bits_21 (by decide) ?_
      refine g_lv (lv' := [(0, .int v0), (1, .int (v1 + ((v0 >>> (v2 &&& 31)) &&& (1 : Int32)))), (2, .int (v2 + (1 : Int32)))]) [2, 1, 0] rfl ?_
      exact hk_4 _ _ h
  unfold f_X8_bits at h
  refine g_iconst C 1 (0 : Int32) dX8_bits_0 rfl rfl ?_
  refine g_istore_n C 2 1 [(1, .int (0 : Int32)), (0, .int v0)] dX8_bits_1 rfl rfl 3 hNL (by decide) rfl ?_
  refine g_iconst C 3 (0 : Int32) dX8_bits_2 rfl rfl ?_
  refine g_istore_n C 4 2 [(2, .int (0 : Int32)), (1, .int (0 : Int32)), (0, .int v0)] dX8_bits_3 rfl rfl 3 hNL (by decide) rfl ?_
  refine g_lv (lv' := [(0, .int v0), (1, .int (0 : Int32)), (2, .int (0 : Int32))]) [2, 1, 0] rfl ?_
  exact J_4 _ _ _ _ h
set_option maxHeartbeats 4000000 in
set_option maxRecDepth 100000 in
theorem ct_X8_apart (L : LL) (v0 : Int32) (v1 : Int32) (x : Int32) (h : f_X8_apart v0 v1 = some x) : Ct L yX8_apart cX8_apart 2 (some .int) (rmk 0 0 0 0) 0 0 [.int v0, .int v1] [] (Pv (some (.int x)) []) := by
  refine g_enter (lv := [(0, .int v0), (1, .int v1)]) kX8_apart rfl rfl (Nat.le_of_ble_eq_true rfl) (fun Γ C E hNL => ?_)
  unfold f_X8_apart at h
  refine g_iload_n C 1 0 dX8_apart_0 rfl rfl ?_
  refine g_iload_n C 2 1 dX8_apart_1 rfl rfl ?_
  refine g_icmp_le C 11 5 dX8_apart_2 (by decide) rfl (fun c => ?_) (fun c => ?_)
  · have h := ifT c h
    refine g_iload_n C 12 1 dX8_apart_11 rfl rfl ?_
    refine g_iload_n C 13 0 dX8_apart_12 rfl rfl ?_
    refine g_isub C 14 dX8_apart_13 rfl ?_
    exact g_iret (st := []) C E dX8_apart_14 (by obtain rfl := Option.some.inj h; exact ⟨rfl, rfl⟩)
  · have h := ifF c h
    refine g_iload_n C 6 0 dX8_apart_5 rfl rfl ?_
    refine g_iload_n C 7 1 dX8_apart_6 rfl rfl ?_
    refine g_isub C 8 dX8_apart_7 rfl ?_
    refine g_goto C 14 dX8_apart_8 (by decide) ?_
    exact g_iret (st := []) C E dX8_apart_14 (by obtain rfl := Option.some.inj h; exact ⟨rfl, rfl⟩)
set_option maxHeartbeats 4000000 in
set_option maxRecDepth 100000 in
theorem ct_X8_isStreet (L : LL) (o : Nat) (u : Nat → Nat) (S : OS) (v1 : Int32) (x : Int32) (h : f_X8_isStreet S v1 = some x) : Ct L yX8_isStreet cX8_isStreet 2 (some .boolean) (rmk 0 0 0 0) 0 0 [.ref o, .int v1] (cells8 L o u S) (Pv (some (.int x)) (cells8 L o u S)) := by
  refine g_enter (lv := [(0, .ref o), (1, .int v1)]) kX8_isStreet rfl rfl (Nat.le_of_ble_eq_true rfl) (fun Γ C E hNL => ?_)
  unfold f_X8_isStreet at h
  refine g_iload_n C 1 1 dX8_isStreet_0 rfl rfl ?_
  refine g_if_lt C 16 4 dX8_isStreet_1 (by decide) rfl (fun c => ?_) (fun c => ?_)
  · have h := ifT c h
    refine g_iconst C 17 (0 : Int32) dX8_isStreet_16 rfl rfl ?_
    exact g_zret (st := []) C E dX8_isStreet_17 rfl (by obtain rfl := Option.some.inj h; exact ⟨rfl, rfl⟩)
  · have h := ifF c h
    refine g_iload_n C 5 1 dX8_isStreet_4 rfl rfl ?_
    refine g_aload_n C 6 0 dX8_isStreet_5 rfl rfl ?_
    refine g_get (v := .int (S.1 7)) C 9 8 0 7 hin_8 rfl rfl (by decide) wf_X8_61 rfl dX8_isStreet_6 rfl ?_
    refine g_icmp_ge C 16 12 dX8_isStreet_9 (by decide) rfl (fun c => ?_) (fun c => ?_)
    · have h := ifT c h
      refine g_iconst C 17 (0 : Int32) dX8_isStreet_16 rfl rfl ?_
      exact g_zret (st := []) C E dX8_isStreet_17 rfl (by obtain rfl := Option.some.inj h; exact ⟨rfl, rfl⟩)
    · have h := ifF c h
      refine g_iconst C 13 (1 : Int32) dX8_isStreet_12 rfl rfl ?_
      refine g_goto C 17 dX8_isStreet_13 (by decide) ?_
      exact g_zret (st := []) C E dX8_isStreet_17 rfl (by obtain rfl := Option.some.inj h; exact ⟨rfl, rfl⟩)
set_option maxHeartbeats 4000000 in
set_option maxRecDepth 100000 in
theorem ct_X8_isWay (L : LL) (o : Nat) (u : Nat → Nat) (S : OS) (v1 : Int32) (x : Int32) (h : f_X8_isWay S v1 = some x) : Ct L yX8_isWay cX8_isWay 2 (some .boolean) (rmk 0 0 0 0) 0 0 [.ref o, .int v1] (cells8 L o u S) (Pv (some (.int x)) (cells8 L o u S)) := by
  refine g_enter (lv := [(0, .ref o), (1, .int v1)]) kX8_isWay rfl rfl (Nat.le_of_ble_eq_true rfl) (fun Γ C E hNL => ?_)
  unfold f_X8_isWay at h
  refine g_iload_n C 1 1 dX8_isWay_0 rfl rfl ?_
  refine g_if_lt C 16 4 dX8_isWay_1 (by decide) rfl (fun c => ?_) (fun c => ?_)
  · have h := ifT c h
    refine g_iconst C 17 (0 : Int32) dX8_isWay_16 rfl rfl ?_
    exact g_zret (st := []) C E dX8_isWay_17 rfl (by obtain rfl := Option.some.inj h; exact ⟨rfl, rfl⟩)
  · have h := ifF c h
    refine g_iload_n C 5 1 dX8_isWay_4 rfl rfl ?_
    refine g_aload_n C 6 0 dX8_isWay_5 rfl rfl ?_
    refine g_get (v := .int (S.1 8)) C 9 8 0 8 hin_8 rfl rfl (by decide) wf_X8_64 rfl dX8_isWay_6 rfl ?_
    refine g_icmp_ge C 16 12 dX8_isWay_9 (by decide) rfl (fun c => ?_) (fun c => ?_)
    · have h := ifT c h
      refine g_iconst C 17 (0 : Int32) dX8_isWay_16 rfl rfl ?_
      exact g_zret (st := []) C E dX8_isWay_17 rfl (by obtain rfl := Option.some.inj h; exact ⟨rfl, rfl⟩)
    · have h := ifF c h
      refine g_iconst C 13 (1 : Int32) dX8_isWay_12 rfl rfl ?_
      refine g_goto C 17 dX8_isWay_13 (by decide) ?_
      exact g_zret (st := []) C E dX8_isWay_17 rfl (by obtain rfl := Option.some.inj h; exact ⟨rfl, rfl⟩)
set_option maxHeartbeats 4000000 in
set_option maxRecDepth 100000 in
theorem ct_X8_isLearner (L : LL) (o : Nat) (u : Nat → Nat) (S : OS) (v1 : Int32) (x : Int32) (h : f_X8_isLearner S v1 = some x) : Ct L yX8_isLearner cX8_isLearner 2 (some .boolean) (rmk 0 0 0 0) 0 0 [.ref o, .int v1] (cells8 L o u S) (Pv (some (.int x)) (cells8 L o u S)) := by
  refine g_enter (lv := [(0, .ref o), (1, .int v1)]) kX8_isLearner rfl rfl (Nat.le_of_ble_eq_true rfl) (fun Γ C E hNL => ?_)
  unfold f_X8_isLearner at h
  refine g_iload_n C 1 1 dX8_isLearner_0 rfl rfl ?_
  refine g_if_lt C 16 4 dX8_isLearner_1 (by decide) rfl (fun c => ?_) (fun c => ?_)
  · have h := ifT c h
    refine g_iconst C 17 (0 : Int32) dX8_isLearner_16 rfl rfl ?_
    exact g_zret (st := []) C E dX8_isLearner_17 rfl (by obtain rfl := Option.some.inj h; exact ⟨rfl, rfl⟩)
  · have h := ifF c h
    refine g_iload_n C 5 1 dX8_isLearner_4 rfl rfl ?_
    refine g_aload_n C 6 0 dX8_isLearner_5 rfl rfl ?_
    refine g_get (v := .int (S.1 9)) C 9 8 0 9 hin_8 rfl rfl (by decide) wf_X8_67 rfl dX8_isLearner_6 rfl ?_
    refine g_icmp_ge C 16 12 dX8_isLearner_9 (by decide) rfl (fun c => ?_) (fun c => ?_)
    · have h := ifT c h
      refine g_iconst C 17 (0 : Int32) dX8_isLearner_16 rfl rfl ?_
      exact g_zret (st := []) C E dX8_isLearner_17 rfl (by obtain rfl := Option.some.inj h; exact ⟨rfl, rfl⟩)
    · have h := ifF c h
      refine g_iconst C 13 (1 : Int32) dX8_isLearner_12 rfl rfl ?_
      refine g_goto C 17 dX8_isLearner_13 (by decide) ?_
      exact g_zret (st := []) C E dX8_isLearner_17 rfl (by obtain rfl := Option.some.inj h; exact ⟨rfl, rfl⟩)
set_option maxHeartbeats 4000000 in
set_option maxRecDepth 100000 in
theorem ct_X8_isHour (L : LL) (v0 : Int32) (x : Int32) (h : f_X8_isHour v0 = some x) : Ct L yX8_isHour cX8_isHour 1 (some .boolean) (rmk 0 0 0 0) 0 0 [.int v0] [] (Pv (some (.int x)) []) := by
  refine g_enter (lv := [(0, .int v0)]) kX8_isHour rfl rfl (Nat.le_of_ble_eq_true rfl) (fun Γ C E hNL => ?_)
  unfold f_X8_isHour at h
  refine g_iload_n C 1 0 dX8_isHour_0 rfl rfl ?_
  refine g_if_lt C 14 4 dX8_isHour_1 (by decide) rfl (fun c => ?_) (fun c => ?_)
  · have h := ifT c h
    refine g_iconst C 15 (0 : Int32) dX8_isHour_14 rfl rfl ?_
    exact g_zret (st := []) C E dX8_isHour_15 rfl (by obtain rfl := Option.some.inj h; exact ⟨rfl, rfl⟩)
  · have h := ifF c h
    refine g_iload_n C 5 0 dX8_isHour_4 rfl rfl ?_
    refine g_bipush C 7 (24 : Int32) dX8_isHour_5 rfl rfl ?_
    refine g_icmp_ge C 14 10 dX8_isHour_7 (by decide) rfl (fun c => ?_) (fun c => ?_)
    · have h := ifT c h
      refine g_iconst C 15 (0 : Int32) dX8_isHour_14 rfl rfl ?_
      exact g_zret (st := []) C E dX8_isHour_15 rfl (by obtain rfl := Option.some.inj h; exact ⟨rfl, rfl⟩)
    · have h := ifF c h
      refine g_iconst C 11 (1 : Int32) dX8_isHour_10 rfl rfl ?_
      refine g_goto C 15 dX8_isHour_11 (by decide) ?_
      exact g_zret (st := []) C E dX8_isHour_15 rfl (by obtain rfl := Option.some.inj h; exact ⟨rfl, rfl⟩)
set_option maxHeartbeats 4000000 in
set_option maxRecDepth 100000 in
theorem ct_X8_feed (L : LL) (o : Nat) (u : Nat → Nat) (S : OS) (v1 : Int32) (x : (Int32 × OS)) (h : f_X8_feed S v1 = some x) : Ct L yX8_feed cX8_feed 3 (some .int) (rmk 1 0 0 22) 0 0 [.ref o, .int v1] (cells8 L o u S) (Pv (some (.int x.1)) (cells8 L o u x.2)) := by
  refine g_enter (lv := [(0, .ref o), (1, .int v1)]) kX8_feed rfl rfl (Nat.le_of_ble_eq_true rfl) (fun Γ C E hNL => ?_)
  have J_25 : ∀ (v1 : Int32) (v2 : Int32) (S : OS), j_X8_feed_25   v1 v2 S = some x → G L Γ 0 0 (cells8 L o u S) 25 [(0, .ref o), (1, .int v1), (2, .int v2)] [] := by
    intro v1 v2 S h
    unfold j_X8_feed_25 at h
    refine g_iload_n C 26 2 dX8_feed_25 rfl rfl ?_
    refine g_if_eq C 35 29 dX8_feed_26 (by decide) rfl (fun c => ?_) (fun c => ?_)
    · have h := ifT c h
      refine g_aload_n C 36 0 dX8_feed_35 rfl rfl ?_
      refine g_get (v := .ref (u 13)) C 39 8 0 13 hin_8 rfl rfl (by decide) wf_X8_31 rfl dX8_feed_36 rfl ?_
      refine g_aload_n C 40 0 dX8_feed_39 rfl rfl ?_
      refine g_get (v := .int (S.1 17)) C 43 8 0 17 hin_8 rfl rfl (by decide) wf_X8_74 rfl dX8_feed_40 rfl ?_
      refine g_iload_n C 44 1 dX8_feed_43 rfl rfl ?_
      refine grdE h (fun hb h => ?_)
      refine g_iast (f := (S.2 13)) (w' := (cells8 L o u (sa S 13 (upd (S.2 13) ((S.1 17)).toNatClampNeg v1)))) C 45 8 rfl hb dX8_feed_44 rfl rfl ?_
      refine g_aload_n C 46 0 dX8_feed_45 rfl rfl ?_
      refine g_dup C 47 dX8_feed_46 rfl rfl ?_
      refine g_get (v := .int (S.1 17)) C 50 8 0 17 hin_8 rfl rfl (by decide) wf_X8_74 rfl dX8_feed_47 rfl ?_
      refine g_iconst C 51 (1 : Int32) dX8_feed_50 rfl rfl ?_
      refine g_iadd C 52 dX8_feed_51 rfl ?_
      refine g_put (w' := (cells8 L o u (su (sa S 13 (upd (S.2 13) ((S.1 17)).toNatClampNeg v1)) 17 ((S.1 17) + (1 : Int32))))) C 55 8 0 17 hin_8 tyX8 tyX8_ok nmX8 rfl rfl (by decide) wf_X8_74 rfl rfl rfl (Nat.le_of_ble_eq_true rfl) dX8_feed_52 rfl rfl ?_
      refine g_aload_n C 56 0 dX8_feed_55 rfl rfl ?_
      refine g_get (v := .int ((S.1 17) + (1 : Int32))) C 59 8 0 17 hin_8 rfl rfl (by decide) wf_X8_74 rfl dX8_feed_56 rfl ?_
      exact g_iret (st := []) C E dX8_feed_59 (by obtain rfl := Option.some.inj h; exact ⟨rfl, rfl⟩)
    · have h := ifF c h
      refine g_aload_n C 30 0 dX8_feed_29 rfl rfl ?_
      refine g_iload_n C 31 2 dX8_feed_30 rfl rfl ?_
      refine bnd h (fun x2 e2 h => ?_)
      refine g_callVs (w' := (cells8 L o u x2.2)) C 34 [] [.int x2.1] (ct_X8_no L o u S v2 x2 e2) kX8_no kvX8_no wl_X8_77 8 0 rfl rfl rfl rfl rfl rfl rfl (Nat.le_of_ble_eq_true rfl) ⟨Nat.le_of_ble_eq_true rfl, Nat.le_of_ble_eq_true rfl⟩ ⟨Nat.zero_le _, Nat.zero_le _⟩ dX8_feed_31 rfl ?_
      exact g_iret (st := []) C E dX8_feed_34 (by obtain rfl := Option.some.inj h; exact ⟨rfl, rfl⟩)
  unfold f_X8_feed at h
  refine g_iload_n C 1 1 dX8_feed_0 rfl rfl ?_
  refine g_iconst C 2 (0 : Int32) dX8_feed_1 rfl rfl ?_
  refine g_sipush C 5 (255 : Int32) dX8_feed_2 rfl rfl ?_
  refine bnd h (fun x1 e1 h => ?_)
  refine g_callSr C 8 [] [.int x1] (ct_X8_bound L v1 (0 : Int32) (255 : Int32) x1 e1) kX8_bound kvX8_bound wl_X8_70 [] rfl rfl rfl rfl rfl (Nat.le_of_ble_eq_true rfl) ⟨Nat.le_of_ble_eq_true rfl, Nat.le_of_ble_eq_true rfl⟩ ⟨Nat.zero_le _, Nat.zero_le _⟩ dX8_feed_5 rfl ?_
  refine g_istore_n C 9 2 [(2, .int x1), (0, .ref o), (1, .int v1)] dX8_feed_8 rfl rfl 3 hNL (by decide) rfl ?_
  refine g_iload_n C 10 0 dX8_feed_9 rfl rfl ?_
  refine g_if_ne C 25 13 dX8_feed_10 (by decide) rfl (fun c => ?_) (fun c => ?_)
  · have h := ifF c h
    refine g_lv (lv' := [(0, .ref o), (1, .int v1), (2, .int x1)]) [1, 2, 0] rfl ?_
    exact J_25 _ _ _ h
  · have h := ifT c h
    refine g_aload_n C 14 1 dX8_feed_13 rfl rfl ?_
    refine g_get (v := .int (S.1 17)) C 17 8 0 17 hin_8 rfl rfl (by decide) wf_X8_74 rfl dX8_feed_14 rfl ?_
    refine g_bipush C 19 (96 : Int32) dX8_feed_17 rfl rfl ?_
    refine g_icmp_ne C 25 22 dX8_feed_19 (by decide) rfl (fun c => ?_) (fun c => ?_)
    · have h := ifF c h
      refine g_lv (lv' := [(0, .ref o), (1, .int v1), (2, .int x1)]) [1, 2, 0] rfl ?_
      exact J_25 _ _ _ h
    · have h := ifT c h
      refine g_bipush C 24 (-6 : Int32) dX8_feed_22 rfl rfl ?_
      refine g_istore_n C 25 2 [(2, .int (-6 : Int32)), (0, .ref o), (1, .int v1)] dX8_feed_24 rfl rfl 3 hNL (by decide) rfl ?_
      refine g_lv (lv' := [(0, .ref o), (1, .int v1), (2, .int (-6 : Int32))]) [1, 2, 0] rfl ?_
      exact J_25 _ _ _ h
set_option maxHeartbeats 4000000 in
set_option maxRecDepth 100000 in
theorem ct_X8_next (L : LL) (o : Nat) (u : Nat → Nat) (S : OS) (x : Int32) (h : f_X8_next S = some x) : Ct L yX8_next cX8_next 1 (some .int) (rmk 0 0 0 0) 0 0 [.ref o] (cells8 L o u S) (Pv (some (.int x)) (cells8 L o u S)) := by
  refine g_enter (lv := [(0, .ref o)]) kX8_next rfl rfl (Nat.le_of_ble_eq_true rfl) (fun Γ C E hNL => ?_)
  unfold f_X8_next at h
  refine g_aload_n C 1 0 dX8_next_0 rfl rfl ?_
  refine g_get (v := .int (S.1 18)) C 4 8 0 18 hin_8 rfl rfl (by decide) wf_X8_81 rfl dX8_next_1 rfl ?_
  refine g_aload_n C 5 0 dX8_next_4 rfl rfl ?_
  refine g_get (v := .int (S.1 17)) C 8 8 0 17 hin_8 rfl rfl (by decide) wf_X8_74 rfl dX8_next_5 rfl ?_
  refine g_icmp_ge C 23 11 dX8_next_8 (by decide) rfl (fun c => ?_) (fun c => ?_)
  · have h := ifT c h
    refine g_iconst C 24 (-1 : Int32) dX8_next_23 rfl rfl ?_
    exact g_iret (st := []) C E dX8_next_24 (by obtain rfl := Option.some.inj h; exact ⟨rfl, rfl⟩)
  · have h := ifF c h
    refine g_aload_n C 12 0 dX8_next_11 rfl rfl ?_
    refine g_get (v := .ref (u 13)) C 15 8 0 13 hin_8 rfl rfl (by decide) wf_X8_31 rfl dX8_next_12 rfl ?_
    refine g_aload_n C 16 0 dX8_next_15 rfl rfl ?_
    refine g_get (v := .int (S.1 18)) C 19 8 0 18 hin_8 rfl rfl (by decide) wf_X8_81 rfl dX8_next_16 rfl ?_
    refine grdE h (fun hb h => ?_)
    refine g_iald (f := (S.2 13)) C 20 8 rfl hb dX8_next_19 rfl ?_
    refine g_goto C 24 dX8_next_20 (by decide) ?_
    exact g_iret (st := []) C E dX8_next_24 (by obtain rfl := Option.some.inj h; exact ⟨rfl, rfl⟩)
set_option maxHeartbeats 4000000 in
set_option maxRecDepth 100000 in
theorem ct_X8_readsDigits (L : LL) (o : Nat) (u : Nat → Nat) (S : OS) (v1 : Int32) (v2 : Int32) (x : (Int32 × OS)) (h : f_X8_readsDigits S v1 v2 = some x) : Ct L yX8_readsDigits cX8_readsDigits 5 (some .boolean) (rmk 1 0 0 22) 0 0 [.ref o, .int v1, .int v2] (cells8 L o u S) (Pv (some (.int x.1)) (cells8 L o u x.2)) := by
  refine g_enter (lv := [(0, .ref o), (1, .int v1), (2, .int v2)]) kX8_readsDigits rfl rfl (Nat.le_of_ble_eq_true rfl) (fun Γ C E hNL => ?_)
  have J_56 : ∀ (v1 : Int32) (v3 : Int32) (S : OS), j_X8_readsDigits_56   v1 v3 S = some x → G L Γ 0 0 (cells8 L o u S) 56 [(0, .ref o), (1, .int v1), (3, .int v3)] [] := by
    intro v1 v3 S h
    unfold j_X8_readsDigits_56 at h
    refine g_aload_n C 57 0 dX8_readsDigits_56 rfl rfl ?_
    refine g_get (v := .ref (u 16)) C 60 8 0 16 hin_8 rfl rfl (by decide) wf_X8_40 rfl dX8_readsDigits_57 rfl ?_
    refine g_iload_n C 61 1 dX8_readsDigits_60 rfl rfl ?_
    refine g_iload_n C 62 2 dX8_readsDigits_61 rfl rfl ?_
    refine grdE h (fun hb h => ?_)
    refine g_iast (f := (S.2 16)) (w' := (cells8 L o u (sa S 16 (upd (S.2 16) (v1).toNatClampNeg v3)))) C 63 11 rfl hb dX8_readsDigits_62 rfl rfl ?_
    refine g_iconst C 64 (1 : Int32) dX8_readsDigits_63 rfl rfl ?_
    exact g_zret (st := []) C E dX8_readsDigits_64 rfl (by obtain rfl := Option.some.inj h; exact ⟨rfl, rfl⟩)
  have J_5 : ∀ (n : Nat) (v1 : Int32) (v2 : Int32) (v3 : Int32) (v4 : Int32) (S : OS), Lp3 (b_X8_readsDigits_5   v1 v2) n v3 v4 S = some x → G L Γ 0 0 (cells8 L o u S) 5 [(0, .ref o), (1, .int v1), (2, .int v2), (3, .int v3), (4, .int v4)] [] := by
    intro n v1 v2
    refine lp_ok3 (fun v3 v4 S => G L Γ 0 0 (cells8 L o u S) 5 [(0, .ref o), (1, .int v1), (2, .int v2), (3, .int v3), (4, .int v4)] []) (fun k_5 hk_5 => ?_) n
    intro v3 v4 S h
    unfold b_X8_readsDigits_5 at h
    refine g_iload C 7 4 dX8_readsDigits_5 rfl rfl ?_
    refine g_iload_n C 8 2 dX8_readsDigits_7 rfl rfl ?_
    refine g_icmp_ge C 56 11 dX8_readsDigits_8 (by decide) rfl (fun c => ?_) (fun c => ?_)
    · have h := ifT c h
      refine g_lv (lv' := [(0, .ref o), (1, .int v1), (3, .int v3)]) [0, 1, 3] rfl ?_
      exact J_56 _ _ _ h
    · have h := ifF c h
      refine g_aload_n C 12 0 dX8_readsDigits_11 rfl rfl ?_
      refine bnd h (fun x1 e1 h => ?_)
      refine g_callVs (w' := (cells8 L o u S)) C 15 [] [.int x1] (ct_X8_next L o u S x1 e1) kX8_next kvX8_next wl_X8_84 8 0 rfl rfl rfl rfl rfl rfl rfl (Nat.le_of_ble_eq_true rfl) ⟨Nat.le_of_ble_eq_true rfl, Nat.le_of_ble_eq_true rfl⟩ ⟨Nat.zero_le _, Nat.zero_le _⟩ dX8_readsDigits_12 rfl ?_
      refine g_bipush C 17 (48 : Int32) dX8_readsDigits_15 rfl rfl ?_
      refine g_bipush C 19 (57 : Int32) dX8_readsDigits_17 rfl rfl ?_
      refine bnd h (fun x2 e2 h => ?_)
      refine g_callSr C 22 [] [.int x2] (ct_X8_isIn L x1 (48 : Int32) (57 : Int32) x2 e2) kX8_isIn kvX8_isIn wl_X8_88 [] rfl rfl rfl rfl rfl (Nat.le_of_ble_eq_true rfl) ⟨Nat.le_of_ble_eq_true rfl, Nat.le_of_ble_eq_true rfl⟩ ⟨Nat.zero_le _, Nat.zero_le _⟩ dX8_readsDigits_19 rfl ?_
      refine g_if_ne C 27 25 dX8_readsDigits_22 (by decide) rfl (fun c => ?_) (fun c => ?_)
      · have h := ifF c h
        refine g_bipush C 29 (10 : Int32) dX8_readsDigits_27 rfl rfl ?_
        refine g_iload_n C 30 3 dX8_readsDigits_29 rfl rfl ?_
        refine g_imul C 31 dX8_readsDigits_30 rfl ?_
        refine g_aload_n C 32 0 dX8_readsDigits_31 rfl rfl ?_
        refine bnd h (fun x3 e3 h => ?_)
        refine g_callVs (w' := (cells8 L o u S)) C 35 [.int ((10 : Int32) * v3)] [.int x3, .int ((10 : Int32) * v3)] (ct_X8_next L o u S x3 e3) kX8_next kvX8_next wl_X8_84 8 0 rfl rfl rfl rfl rfl rfl rfl (Nat.le_of_ble_eq_true rfl) ⟨Nat.le_of_ble_eq_true rfl, Nat.le_of_ble_eq_true rfl⟩ ⟨Nat.zero_le _, Nat.zero_le _⟩ dX8_readsDigits_32 rfl ?_
        refine g_iadd C 36 dX8_readsDigits_35 rfl ?_
        refine g_bipush C 38 (48 : Int32) dX8_readsDigits_36 rfl rfl ?_
        refine g_isub C 39 dX8_readsDigits_38 rfl ?_
        refine g_istore_n C 40 3 [(3, .int ((((10 : Int32) * v3) + x3) - (48 : Int32))), (0, .ref o), (1, .int v1), (2, .int v2), (4, .int v4)] dX8_readsDigits_39 rfl rfl 5 hNL (by decide) rfl ?_
        refine g_aload_n C 41 1 dX8_readsDigits_40 rfl rfl ?_
        refine g_dup C 42 dX8_readsDigits_41 rfl rfl ?_
        refine g_get (v := .int (S.1 18)) C 45 8 0 18 hin_8 rfl rfl (by decide) wf_X8_81 rfl dX8_readsDigits_42 rfl ?_
        refine g_iconst C 46 (1 : Int32) dX8_readsDigits_45 rfl rfl ?_
        refine g_iadd C 47 dX8_readsDigits_46 rfl ?_
        refine g_put (w' := (cells8 L o u (su S 18 ((S.1 18) + (1 : Int32))))) C 50 8 0 18 hin_8 tyX8 tyX8_ok nmX8 rfl rfl (by decide) wf_X8_81 rfl rfl rfl (Nat.le_of_ble_eq_true rfl) dX8_readsDigits_47 rfl rfl ?_
        refine g_iinc C 53 (1 : Int32) 4 [(4, .int (v4 + (1 : Int32))), (3, .int ((((10 : Int32) * v3) + x3) - (48 : Int32))), (0, .ref o), (1, .int v1), (2, .int v2)] dX8_readsDigits_50 rfl rfl 5 hNL (by decide) rfl rfl ?_
        refine g_goto C 5 dX8_readsDigits_53 (by decide) ?_
        refine g_lv (lv' := [(0, .ref o), (1, .int v1), (2, .int v2), (3, .int ((((10 : Int32) * v3) + x3) - (48 : Int32))), (4, .int (v4 + (1 : Int32)))]) [2, 3, 4, 1, 0] rfl ?_
        exact hk_5 _ _ _ h
      · have h := ifT c h
        refine g_iconst C 26 (0 : Int32) dX8_readsDigits_25 rfl rfl ?_
        exact g_zret (st := []) C E dX8_readsDigits_26 rfl (by obtain rfl := Option.some.inj h; exact ⟨rfl, rfl⟩)
  unfold f_X8_readsDigits at h
  refine g_iconst C 1 (0 : Int32) dX8_readsDigits_0 rfl rfl ?_
  refine g_istore_n C 2 3 [(3, .int (0 : Int32)), (0, .ref o), (1, .int v1), (2, .int v2)] dX8_readsDigits_1 rfl rfl 5 hNL (by decide) rfl ?_
  refine g_iconst C 3 (0 : Int32) dX8_readsDigits_2 rfl rfl ?_
  refine g_istore C 5 4 [(4, .int (0 : Int32)), (3, .int (0 : Int32)), (0, .ref o), (1, .int v1), (2, .int v2)] dX8_readsDigits_3 rfl 5 hNL (by decide) rfl ?_
  refine g_lv (lv' := [(0, .ref o), (1, .int v1), (2, .int v2), (3, .int (0 : Int32)), (4, .int (0 : Int32))]) [2, 3, 4, 1, 0] rfl ?_
  exact J_5 _ _ _ _ _ _ h
set_option maxHeartbeats 4000000 in
set_option maxRecDepth 100000 in
theorem ct_X8_readsAll (L : LL) (o : Nat) (u : Nat → Nat) (S : OS) (v1 : Int32) (v2 : Int32) (x : (Int32 × OS)) (h : f_X8_readsAll S v1 v2 = some x) : Ct L yX8_readsAll cX8_readsAll 3 (some .boolean) (rmk 2 0 0 46) 0 0 [.ref o, .int v1, .int v2] (cells8 L o u S) (Pv (some (.int x.1)) (cells8 L o u x.2)) := by
  refine g_enter (lv := [(0, .ref o), (1, .int v1), (2, .int v2)]) kX8_readsAll rfl rfl (Nat.le_of_ble_eq_true rfl) (fun Γ C E hNL => ?_)
  unfold f_X8_readsAll at h
  refine g_iload_n C 1 1 dX8_readsAll_0 rfl rfl ?_
  by_cases c100 : v1 = (100 : Int32)
  · have h := ifT c100 h
    refine g_tabIn C 154 (153) dX8_readsAll_1 (by rw [c100]; decide) (by rw [c100]; decide) (by rw [c100]; rfl) (by decide) ?_
    refine g_iconst C 155 (1 : Int32) dX8_readsAll_154 rfl rfl ?_
    exact g_zret (st := []) C E dX8_readsAll_155 rfl (by obtain rfl := Option.some.inj h; exact ⟨rfl, rfl⟩)
  have h := ifF c100 h
  by_cases c104 : v1 = (104 : Int32)
  · have h := ifT c104 h
    refine g_tabIn C 147 (146) dX8_readsAll_1 (by rw [c104]; decide) (by rw [c104]; decide) (by rw [c104]; rfl) (by decide) ?_
    refine g_aload_n C 148 0 dX8_readsAll_147 rfl rfl ?_
    refine g_iload_n C 149 2 dX8_readsAll_148 rfl rfl ?_
    refine g_iconst C 150 (2 : Int32) dX8_readsAll_149 rfl rfl ?_
    refine bnd h (fun x1 e1 h => ?_)
    refine g_callVs (w' := (cells8 L o u x1.2)) C 153 [] [.int x1.1] (ct_X8_readsDigits L o u S v2 (2 : Int32) x1 e1) kX8_readsDigits kvX8_readsDigits wl_X8_92 8 0 rfl rfl rfl rfl rfl rfl rfl (Nat.le_of_ble_eq_true rfl) ⟨Nat.le_of_ble_eq_true rfl, Nat.le_of_ble_eq_true rfl⟩ ⟨Nat.zero_le _, Nat.zero_le _⟩ dX8_readsAll_150 rfl ?_
    refine grdE h (fun hb h => ?_)
    exact g_zret (st := []) C E dX8_readsAll_153 hb (by obtain rfl := Option.some.inj h; exact ⟨rfl, rfl⟩)
  have h := ifF c104 h
  by_cases c108 : v1 = (108 : Int32)
  · have h := ifT c108 h
    refine g_tabIn C 140 (139) dX8_readsAll_1 (by rw [c108]; decide) (by rw [c108]; decide) (by rw [c108]; rfl) (by decide) ?_
    refine g_aload_n C 141 0 dX8_readsAll_140 rfl rfl ?_
    refine g_iload_n C 142 2 dX8_readsAll_141 rfl rfl ?_
    refine g_iconst C 143 (1 : Int32) dX8_readsAll_142 rfl rfl ?_
    refine bnd h (fun x2 e2 h => ?_)
    refine g_callVs (w' := (cells8 L o u x2.2)) C 146 [] [.int x2.1] (ct_X8_readsDigits L o u S v2 (1 : Int32) x2 e2) kX8_readsDigits kvX8_readsDigits wl_X8_92 8 0 rfl rfl rfl rfl rfl rfl rfl (Nat.le_of_ble_eq_true rfl) ⟨Nat.le_of_ble_eq_true rfl, Nat.le_of_ble_eq_true rfl⟩ ⟨Nat.zero_le _, Nat.zero_le _⟩ dX8_readsAll_143 rfl ?_
    refine grdE h (fun hb h => ?_)
    exact g_zret (st := []) C E dX8_readsAll_146 hb (by obtain rfl := Option.some.inj h; exact ⟨rfl, rfl⟩)
  have h := ifF c108 h
  by_cases c109 : v1 = (109 : Int32)
  · have h := ifT c109 h
    refine g_tabIn C 147 (146) dX8_readsAll_1 (by rw [c109]; decide) (by rw [c109]; decide) (by rw [c109]; rfl) (by decide) ?_
    refine g_aload_n C 148 0 dX8_readsAll_147 rfl rfl ?_
    refine g_iload_n C 149 2 dX8_readsAll_148 rfl rfl ?_
    refine g_iconst C 150 (2 : Int32) dX8_readsAll_149 rfl rfl ?_
    refine bnd h (fun x3 e3 h => ?_)
    refine g_callVs (w' := (cells8 L o u x3.2)) C 153 [] [.int x3.1] (ct_X8_readsDigits L o u S v2 (2 : Int32) x3 e3) kX8_readsDigits kvX8_readsDigits wl_X8_92 8 0 rfl rfl rfl rfl rfl rfl rfl (Nat.le_of_ble_eq_true rfl) ⟨Nat.le_of_ble_eq_true rfl, Nat.le_of_ble_eq_true rfl⟩ ⟨Nat.zero_le _, Nat.zero_le _⟩ dX8_readsAll_150 rfl ?_
    refine grdE h (fun hb h => ?_)
    exact g_zret (st := []) C E dX8_readsAll_153 hb (by obtain rfl := Option.some.inj h; exact ⟨rfl, rfl⟩)
  have h := ifF c109 h
  by_cases c115 : v1 = (115 : Int32)
  · have h := ifT c115 h
    refine g_tabIn C 96 (95) dX8_readsAll_1 (by rw [c115]; decide) (by rw [c115]; decide) (by rw [c115]; rfl) (by decide) ?_
    refine g_aload_n C 97 0 dX8_readsAll_96 rfl rfl ?_
    refine g_iload_n C 98 2 dX8_readsAll_97 rfl rfl ?_
    refine g_iconst C 99 (1 : Int32) dX8_readsAll_98 rfl rfl ?_
    refine bnd h (fun x4 e4 h => ?_)
    refine g_callVs (w' := (cells8 L o u x4.2)) C 102 [] [.int x4.1] (ct_X8_readsDigits L o u S v2 (1 : Int32) x4 e4) kX8_readsDigits kvX8_readsDigits wl_X8_92 8 0 rfl rfl rfl rfl rfl rfl rfl (Nat.le_of_ble_eq_true rfl) ⟨Nat.le_of_ble_eq_true rfl, Nat.le_of_ble_eq_true rfl⟩ ⟨Nat.zero_le _, Nat.zero_le _⟩ dX8_readsAll_99 rfl ?_
    refine g_if_eq C 131 105 dX8_readsAll_102 (by decide) rfl (fun c => ?_) (fun c => ?_)
    · have h := ifT c h
      refine g_iconst C 132 (0 : Int32) dX8_readsAll_131 rfl rfl ?_
      exact g_zret (st := []) C E dX8_readsAll_132 rfl (by obtain rfl := Option.some.inj h; exact ⟨rfl, rfl⟩)
    · have h := ifF c h
      refine g_aload_n C 106 0 dX8_readsAll_105 rfl rfl ?_
      refine g_iload_n C 107 2 dX8_readsAll_106 rfl rfl ?_
      refine g_iconst C 108 (1 : Int32) dX8_readsAll_107 rfl rfl ?_
      refine g_iadd C 109 dX8_readsAll_108 rfl ?_
      refine g_iconst C 110 (1 : Int32) dX8_readsAll_109 rfl rfl ?_
      refine bnd h (fun x5 e5 h => ?_)
      refine g_callVs (w' := (cells8 L o u x5.2)) C 113 [] [.int x5.1] (ct_X8_readsDigits L o u x4.2 (v2 + (1 : Int32)) (1 : Int32) x5 e5) kX8_readsDigits kvX8_readsDigits wl_X8_92 8 0 rfl rfl rfl rfl rfl rfl rfl (Nat.le_of_ble_eq_true rfl) ⟨Nat.le_of_ble_eq_true rfl, Nat.le_of_ble_eq_true rfl⟩ ⟨Nat.zero_le _, Nat.zero_le _⟩ dX8_readsAll_110 rfl ?_
      refine g_if_eq C 131 116 dX8_readsAll_113 (by decide) rfl (fun c => ?_) (fun c => ?_)
      · have h := ifT c h
        refine g_iconst C 132 (0 : Int32) dX8_readsAll_131 rfl rfl ?_
        exact g_zret (st := []) C E dX8_readsAll_132 rfl (by obtain rfl := Option.some.inj h; exact ⟨rfl, rfl⟩)
      · have h := ifF c h
        refine g_aload_n C 117 0 dX8_readsAll_116 rfl rfl ?_
        refine g_iload_n C 118 2 dX8_readsAll_117 rfl rfl ?_
        refine g_iconst C 119 (2 : Int32) dX8_readsAll_118 rfl rfl ?_
        refine g_iadd C 120 dX8_readsAll_119 rfl ?_
        refine g_iconst C 121 (1 : Int32) dX8_readsAll_120 rfl rfl ?_
        refine bnd h (fun x6 e6 h => ?_)
        refine g_callVs (w' := (cells8 L o u x6.2)) C 124 [] [.int x6.1] (ct_X8_readsDigits L o u x5.2 (v2 + (2 : Int32)) (1 : Int32) x6 e6) kX8_readsDigits kvX8_readsDigits wl_X8_92 8 0 rfl rfl rfl rfl rfl rfl rfl (Nat.le_of_ble_eq_true rfl) ⟨Nat.le_of_ble_eq_true rfl, Nat.le_of_ble_eq_true rfl⟩ ⟨Nat.zero_le _, Nat.zero_le _⟩ dX8_readsAll_121 rfl ?_
        refine g_if_eq C 131 127 dX8_readsAll_124 (by decide) rfl (fun c => ?_) (fun c => ?_)
        · have h := ifT c h
          refine g_iconst C 132 (0 : Int32) dX8_readsAll_131 rfl rfl ?_
          exact g_zret (st := []) C E dX8_readsAll_132 rfl (by obtain rfl := Option.some.inj h; exact ⟨rfl, rfl⟩)
        · have h := ifF c h
          refine g_iconst C 128 (1 : Int32) dX8_readsAll_127 rfl rfl ?_
          refine g_goto C 132 dX8_readsAll_128 (by decide) ?_
          exact g_zret (st := []) C E dX8_readsAll_132 rfl (by obtain rfl := Option.some.inj h; exact ⟨rfl, rfl⟩)
  have h := ifF c115 h
  by_cases c119 : v1 = (119 : Int32)
  · have h := ifT c119 h
    refine g_tabIn C 133 (132) dX8_readsAll_1 (by rw [c119]; decide) (by rw [c119]; decide) (by rw [c119]; rfl) (by decide) ?_
    refine g_aload_n C 134 0 dX8_readsAll_133 rfl rfl ?_
    refine g_iload_n C 135 2 dX8_readsAll_134 rfl rfl ?_
    refine g_iconst C 136 (3 : Int32) dX8_readsAll_135 rfl rfl ?_
    refine bnd h (fun x7 e7 h => ?_)
    refine g_callVs (w' := (cells8 L o u x7.2)) C 139 [] [.int x7.1] (ct_X8_readsDigits L o u S v2 (3 : Int32) x7 e7) kX8_readsDigits kvX8_readsDigits wl_X8_92 8 0 rfl rfl rfl rfl rfl rfl rfl (Nat.le_of_ble_eq_true rfl) ⟨Nat.le_of_ble_eq_true rfl, Nat.le_of_ble_eq_true rfl⟩ ⟨Nat.zero_le _, Nat.zero_le _⟩ dX8_readsAll_136 rfl ?_
    refine grdE h (fun hb h => ?_)
    exact g_zret (st := []) C E dX8_readsAll_139 hb (by obtain rfl := Option.some.inj h; exact ⟨rfl, rfl⟩)
  have h := ifF c119 h
  have t100 := ne_toInt c100 (show ((100 : Int32) : Int32).toInt = 100 by decide +kernel)
  have t104 := ne_toInt c104 (show ((104 : Int32) : Int32).toInt = 104 by decide +kernel)
  have t108 := ne_toInt c108 (show ((108 : Int32) : Int32).toInt = 108 by decide +kernel)
  have t109 := ne_toInt c109 (show ((109 : Int32) : Int32).toInt = 109 by decide +kernel)
  have t115 := ne_toInt c115 (show ((115 : Int32) : Int32).toInt = 115 by decide +kernel)
  have t119 := ne_toInt c119 (show ((119 : Int32) : Int32).toInt = 119 by decide +kernel)
  by_cases cr : (v1).toInt < 100 ∨ 119 < (v1).toInt
  · refine g_tabOut C 156 dX8_readsAll_1 cr (by decide) ?_
    refine g_aload_n C 157 0 dX8_readsAll_156 rfl rfl ?_
    refine g_iload_n C 158 2 dX8_readsAll_157 rfl rfl ?_
    refine g_iconst C 159 (1 : Int32) dX8_readsAll_158 rfl rfl ?_
    refine bnd h (fun x8 e8 h => ?_)
    refine g_callVs (w' := (cells8 L o u x8.2)) C 162 [] [.int x8.1] (ct_X8_readsDigits L o u S v2 (1 : Int32) x8 e8) kX8_readsDigits kvX8_readsDigits wl_X8_92 8 0 rfl rfl rfl rfl rfl rfl rfl (Nat.le_of_ble_eq_true rfl) ⟨Nat.le_of_ble_eq_true rfl, Nat.le_of_ble_eq_true rfl⟩ ⟨Nat.zero_le _, Nat.zero_le _⟩ dX8_readsAll_159 rfl ?_
    refine g_if_eq C 180 165 dX8_readsAll_162 (by decide) rfl (fun c => ?_) (fun c => ?_)
    · have h := ifT c h
      refine g_iconst C 181 (0 : Int32) dX8_readsAll_180 rfl rfl ?_
      exact g_zret (st := []) C E dX8_readsAll_181 rfl (by obtain rfl := Option.some.inj h; exact ⟨rfl, rfl⟩)
    · have h := ifF c h
      refine g_aload_n C 166 0 dX8_readsAll_165 rfl rfl ?_
      refine g_iload_n C 167 2 dX8_readsAll_166 rfl rfl ?_
      refine g_iconst C 168 (1 : Int32) dX8_readsAll_167 rfl rfl ?_
      refine g_iadd C 169 dX8_readsAll_168 rfl ?_
      refine g_iconst C 170 (1 : Int32) dX8_readsAll_169 rfl rfl ?_
      refine bnd h (fun x9 e9 h => ?_)
      refine g_callVs (w' := (cells8 L o u x9.2)) C 173 [] [.int x9.1] (ct_X8_readsDigits L o u x8.2 (v2 + (1 : Int32)) (1 : Int32) x9 e9) kX8_readsDigits kvX8_readsDigits wl_X8_92 8 0 rfl rfl rfl rfl rfl rfl rfl (Nat.le_of_ble_eq_true rfl) ⟨Nat.le_of_ble_eq_true rfl, Nat.le_of_ble_eq_true rfl⟩ ⟨Nat.zero_le _, Nat.zero_le _⟩ dX8_readsAll_170 rfl ?_
      refine g_if_eq C 180 176 dX8_readsAll_173 (by decide) rfl (fun c => ?_) (fun c => ?_)
      · have h := ifT c h
        refine g_iconst C 181 (0 : Int32) dX8_readsAll_180 rfl rfl ?_
        exact g_zret (st := []) C E dX8_readsAll_181 rfl (by obtain rfl := Option.some.inj h; exact ⟨rfl, rfl⟩)
      · have h := ifF c h
        refine g_iconst C 177 (1 : Int32) dX8_readsAll_176 rfl rfl ?_
        refine g_goto C 181 dX8_readsAll_177 (by decide) ?_
        exact g_zret (st := []) C E dX8_readsAll_181 rfl (by obtain rfl := Option.some.inj h; exact ⟨rfl, rfl⟩)
  · have cx : (v1).toInt = 101 ∨ (v1).toInt = 102 ∨ (v1).toInt = 103 ∨ (v1).toInt = 105 ∨ (v1).toInt = 106 ∨ (v1).toInt = 107 ∨ (v1).toInt = 110 ∨ (v1).toInt = 111 ∨ (v1).toInt = 112 ∨ (v1).toInt = 113 ∨ (v1).toInt = 114 ∨ (v1).toInt = 116 ∨ (v1).toInt = 117 ∨ (v1).toInt = 118 := by omega
    refine g_tabIn C 156 (155) dX8_readsAll_1 (by omega) (by omega) (by rcases cx with cx | cx | cx | cx | cx | cx | cx | cx | cx | cx | cx | cx | cx | cx <;> (rw [cx]; rfl)) (by decide) ?_
    refine g_aload_n C 157 0 dX8_readsAll_156 rfl rfl ?_
    refine g_iload_n C 158 2 dX8_readsAll_157 rfl rfl ?_
    refine g_iconst C 159 (1 : Int32) dX8_readsAll_158 rfl rfl ?_
    refine bnd h (fun x8 e8 h => ?_)
    refine g_callVs (w' := (cells8 L o u x8.2)) C 162 [] [.int x8.1] (ct_X8_readsDigits L o u S v2 (1 : Int32) x8 e8) kX8_readsDigits kvX8_readsDigits wl_X8_92 8 0 rfl rfl rfl rfl rfl rfl rfl (Nat.le_of_ble_eq_true rfl) ⟨Nat.le_of_ble_eq_true rfl, Nat.le_of_ble_eq_true rfl⟩ ⟨Nat.zero_le _, Nat.zero_le _⟩ dX8_readsAll_159 rfl ?_
    refine g_if_eq C 180 165 dX8_readsAll_162 (by decide) rfl (fun c => ?_) (fun c => ?_)
    · have h := ifT c h
      refine g_iconst C 181 (0 : Int32) dX8_readsAll_180 rfl rfl ?_
      exact g_zret (st := []) C E dX8_readsAll_181 rfl (by obtain rfl := Option.some.inj h; exact ⟨rfl, rfl⟩)
    · have h := ifF c h
      refine g_aload_n C 166 0 dX8_readsAll_165 rfl rfl ?_
      refine g_iload_n C 167 2 dX8_readsAll_166 rfl rfl ?_
      refine g_iconst C 168 (1 : Int32) dX8_readsAll_167 rfl rfl ?_
      refine g_iadd C 169 dX8_readsAll_168 rfl ?_
      refine g_iconst C 170 (1 : Int32) dX8_readsAll_169 rfl rfl ?_
      refine bnd h (fun x9 e9 h => ?_)
      refine g_callVs (w' := (cells8 L o u x9.2)) C 173 [] [.int x9.1] (ct_X8_readsDigits L o u x8.2 (v2 + (1 : Int32)) (1 : Int32) x9 e9) kX8_readsDigits kvX8_readsDigits wl_X8_92 8 0 rfl rfl rfl rfl rfl rfl rfl (Nat.le_of_ble_eq_true rfl) ⟨Nat.le_of_ble_eq_true rfl, Nat.le_of_ble_eq_true rfl⟩ ⟨Nat.zero_le _, Nat.zero_le _⟩ dX8_readsAll_170 rfl ?_
      refine g_if_eq C 180 176 dX8_readsAll_173 (by decide) rfl (fun c => ?_) (fun c => ?_)
      · have h := ifT c h
        refine g_iconst C 181 (0 : Int32) dX8_readsAll_180 rfl rfl ?_
        exact g_zret (st := []) C E dX8_readsAll_181 rfl (by obtain rfl := Option.some.inj h; exact ⟨rfl, rfl⟩)
      · have h := ifF c h
        refine g_iconst C 177 (1 : Int32) dX8_readsAll_176 rfl rfl ?_
        refine g_goto C 181 dX8_readsAll_177 (by decide) ?_
        exact g_zret (st := []) C E dX8_readsAll_181 rfl (by obtain rfl := Option.some.inj h; exact ⟨rfl, rfl⟩)
set_option maxHeartbeats 4000000 in
set_option maxRecDepth 100000 in
theorem ct_X8_isLetter (L : LL) (v0 : Int32) (x : Int32) (h : f_X8_isLetter v0 = some x) : Ct L yX8_isLetter cX8_isLetter 1 (some .boolean) (rmk 0 0 0 0) 0 0 [.int v0] [] (Pv (some (.int x)) []) := by
  refine g_enter (lv := [(0, .int v0)]) kX8_isLetter rfl rfl (Nat.le_of_ble_eq_true rfl) (fun Γ C E hNL => ?_)
  unfold f_X8_isLetter at h
  refine g_iload_n C 1 0 dX8_isLetter_0 rfl rfl ?_
  refine g_bipush C 3 (115 : Int32) dX8_isLetter_1 rfl rfl ?_
  refine g_icmp_eq C 48 6 dX8_isLetter_3 (by decide) rfl (fun c => ?_) (fun c => ?_)
  · have h := ifT c h
    refine g_iconst C 49 (1 : Int32) dX8_isLetter_48 rfl rfl ?_
    refine g_goto C 53 dX8_isLetter_49 (by decide) ?_
    exact g_zret (st := []) C E dX8_isLetter_53 rfl (by obtain rfl := Option.some.inj h; exact ⟨rfl, rfl⟩)
  · have h := ifF c h
    refine g_iload_n C 7 0 dX8_isLetter_6 rfl rfl ?_
    refine g_bipush C 9 (119 : Int32) dX8_isLetter_7 rfl rfl ?_
    refine g_icmp_eq C 48 12 dX8_isLetter_9 (by decide) rfl (fun c => ?_) (fun c => ?_)
    · have h := ifT c h
      refine g_iconst C 49 (1 : Int32) dX8_isLetter_48 rfl rfl ?_
      refine g_goto C 53 dX8_isLetter_49 (by decide) ?_
      exact g_zret (st := []) C E dX8_isLetter_53 rfl (by obtain rfl := Option.some.inj h; exact ⟨rfl, rfl⟩)
    · have h := ifF c h
      refine g_iload_n C 13 0 dX8_isLetter_12 rfl rfl ?_
      refine g_bipush C 15 (108 : Int32) dX8_isLetter_13 rfl rfl ?_
      refine g_icmp_eq C 48 18 dX8_isLetter_15 (by decide) rfl (fun c => ?_) (fun c => ?_)
      · have h := ifT c h
        refine g_iconst C 49 (1 : Int32) dX8_isLetter_48 rfl rfl ?_
        refine g_goto C 53 dX8_isLetter_49 (by decide) ?_
        exact g_zret (st := []) C E dX8_isLetter_53 rfl (by obtain rfl := Option.some.inj h; exact ⟨rfl, rfl⟩)
      · have h := ifF c h
        refine g_iload_n C 19 0 dX8_isLetter_18 rfl rfl ?_
        refine g_bipush C 21 (107 : Int32) dX8_isLetter_19 rfl rfl ?_
        refine g_icmp_eq C 48 24 dX8_isLetter_21 (by decide) rfl (fun c => ?_) (fun c => ?_)
        · have h := ifT c h
          refine g_iconst C 49 (1 : Int32) dX8_isLetter_48 rfl rfl ?_
          refine g_goto C 53 dX8_isLetter_49 (by decide) ?_
          exact g_zret (st := []) C E dX8_isLetter_53 rfl (by obtain rfl := Option.some.inj h; exact ⟨rfl, rfl⟩)
        · have h := ifF c h
          refine g_iload_n C 25 0 dX8_isLetter_24 rfl rfl ?_
          refine g_bipush C 27 (104 : Int32) dX8_isLetter_25 rfl rfl ?_
          refine g_icmp_eq C 48 30 dX8_isLetter_27 (by decide) rfl (fun c => ?_) (fun c => ?_)
          · have h := ifT c h
            refine g_iconst C 49 (1 : Int32) dX8_isLetter_48 rfl rfl ?_
            refine g_goto C 53 dX8_isLetter_49 (by decide) ?_
            exact g_zret (st := []) C E dX8_isLetter_53 rfl (by obtain rfl := Option.some.inj h; exact ⟨rfl, rfl⟩)
          · have h := ifF c h
            refine g_iload_n C 31 0 dX8_isLetter_30 rfl rfl ?_
            refine g_bipush C 33 (116 : Int32) dX8_isLetter_31 rfl rfl ?_
            refine g_icmp_eq C 48 36 dX8_isLetter_33 (by decide) rfl (fun c => ?_) (fun c => ?_)
            · have h := ifT c h
              refine g_iconst C 49 (1 : Int32) dX8_isLetter_48 rfl rfl ?_
              refine g_goto C 53 dX8_isLetter_49 (by decide) ?_
              exact g_zret (st := []) C E dX8_isLetter_53 rfl (by obtain rfl := Option.some.inj h; exact ⟨rfl, rfl⟩)
            · have h := ifF c h
              refine g_iload_n C 37 0 dX8_isLetter_36 rfl rfl ?_
              refine g_bipush C 39 (109 : Int32) dX8_isLetter_37 rfl rfl ?_
              refine g_icmp_eq C 48 42 dX8_isLetter_39 (by decide) rfl (fun c => ?_) (fun c => ?_)
              · have h := ifT c h
                refine g_iconst C 49 (1 : Int32) dX8_isLetter_48 rfl rfl ?_
                refine g_goto C 53 dX8_isLetter_49 (by decide) ?_
                exact g_zret (st := []) C E dX8_isLetter_53 rfl (by obtain rfl := Option.some.inj h; exact ⟨rfl, rfl⟩)
              · have h := ifF c h
                refine g_iload_n C 43 0 dX8_isLetter_42 rfl rfl ?_
                refine g_bipush C 45 (100 : Int32) dX8_isLetter_43 rfl rfl ?_
                refine g_icmp_ne C 52 48 dX8_isLetter_45 (by decide) rfl (fun c => ?_) (fun c => ?_)
                · have h := ifF c h
                  refine g_iconst C 53 (0 : Int32) dX8_isLetter_52 rfl rfl ?_
                  exact g_zret (st := []) C E dX8_isLetter_53 rfl (by obtain rfl := Option.some.inj h; exact ⟨rfl, rfl⟩)
                · have h := ifT c h
                  refine g_iconst C 49 (1 : Int32) dX8_isLetter_48 rfl rfl ?_
                  refine g_goto C 53 dX8_isLetter_49 (by decide) ?_
                  exact g_zret (st := []) C E dX8_isLetter_53 rfl (by obtain rfl := Option.some.inj h; exact ⟨rfl, rfl⟩)
set_option maxHeartbeats 4000000 in
set_option maxRecDepth 100000 in
theorem ct_X8_statement (L : LL) (o : Nat) (u : Nat → Nat) (S : OS) (x : (Int32 × OS)) (h : f_X8_statement S = some x) : Ct L yX8_statement cX8_statement 2 (some .boolean) (rmk 3 0 0 68) 0 0 [.ref o] (cells8 L o u S) (Pv (some (.int x.1)) (cells8 L o u x.2)) := by
  refine g_enter (lv := [(0, .ref o)]) kX8_statement rfl rfl (Nat.le_of_ble_eq_true rfl) (fun Γ C E hNL => ?_)
  unfold f_X8_statement at h
  refine g_aload_n C 1 0 dX8_statement_0 rfl rfl ?_
  refine bnd h (fun x1 e1 h => ?_)
  refine g_callVs (w' := (cells8 L o u S)) C 4 [] [.int x1] (ct_X8_next L o u S x1 e1) kX8_next kvX8_next wl_X8_84 8 0 rfl rfl rfl rfl rfl rfl rfl (Nat.le_of_ble_eq_true rfl) ⟨Nat.le_of_ble_eq_true rfl, Nat.le_of_ble_eq_true rfl⟩ ⟨Nat.zero_le _, Nat.zero_le _⟩ dX8_statement_1 rfl ?_
  refine g_istore_n C 5 1 [(1, .int x1), (0, .ref o)] dX8_statement_4 rfl rfl 2 hNL (by decide) rfl ?_
  refine g_iload_n C 6 0 dX8_statement_5 rfl rfl ?_
  refine bnd h (fun x2 e2 h => ?_)
  refine g_callSr C 9 [] [.int x2] (ct_X8_isLetter L x1 x2 e2) kX8_isLetter kvX8_isLetter wl_X8_96 [] rfl rfl rfl rfl rfl (Nat.le_of_ble_eq_true rfl) ⟨Nat.le_of_ble_eq_true rfl, Nat.le_of_ble_eq_true rfl⟩ ⟨Nat.zero_le _, Nat.zero_le _⟩ dX8_statement_6 rfl ?_
  refine g_if_ne C 14 12 dX8_statement_9 (by decide) rfl (fun c => ?_) (fun c => ?_)
  · have h := ifF c h
    refine g_aload_n C 15 1 dX8_statement_14 rfl rfl ?_
    refine g_get (v := .ref (u 14)) C 18 8 0 14 hin_8 rfl rfl (by decide) wf_X8_34 rfl dX8_statement_15 rfl ?_
    refine g_aload_n C 19 1 dX8_statement_18 rfl rfl ?_
    refine g_get (v := .int (S.1 19)) C 22 8 0 19 hin_8 rfl rfl (by decide) wf_X8_100 rfl dX8_statement_19 rfl ?_
    refine g_iload_n C 23 0 dX8_statement_22 rfl rfl ?_
    refine grdE h (fun hb h => ?_)
    refine g_iast (f := (S.2 14)) (w' := (cells8 L o u (sa S 14 (upd (S.2 14) ((S.1 19)).toNatClampNeg x1)))) C 24 9 rfl hb dX8_statement_23 rfl rfl ?_
    refine g_aload_n C 25 1 dX8_statement_24 rfl rfl ?_
    refine g_get (v := .ref (u 15)) C 28 8 0 15 hin_8 rfl rfl (by decide) wf_X8_37 rfl dX8_statement_25 rfl ?_
    refine g_aload_n C 29 1 dX8_statement_28 rfl rfl ?_
    refine g_get (v := .int (S.1 19)) C 32 8 0 19 hin_8 rfl rfl (by decide) wf_X8_100 rfl dX8_statement_29 rfl ?_
    refine g_aload_n C 33 1 dX8_statement_32 rfl rfl ?_
    refine g_get (v := .int (S.1 18)) C 36 8 0 18 hin_8 rfl rfl (by decide) wf_X8_81 rfl dX8_statement_33 rfl ?_
    refine grdE h (fun hb h => ?_)
    refine g_iast (f := (S.2 15)) (w' := (cells8 L o u (sa (sa S 14 (upd (S.2 14) ((S.1 19)).toNatClampNeg x1)) 15 (upd (S.2 15) ((S.1 19)).toNatClampNeg (S.1 18))))) C 37 10 rfl hb dX8_statement_36 rfl rfl ?_
    refine g_aload_n C 38 1 dX8_statement_37 rfl rfl ?_
    refine g_dup C 39 dX8_statement_38 rfl rfl ?_
    refine g_get (v := .int (S.1 18)) C 42 8 0 18 hin_8 rfl rfl (by decide) wf_X8_81 rfl dX8_statement_39 rfl ?_
    refine g_iconst C 43 (1 : Int32) dX8_statement_42 rfl rfl ?_
    refine g_iadd C 44 dX8_statement_43 rfl ?_
    refine g_put (w' := (cells8 L o u (su (sa (sa S 14 (upd (S.2 14) ((S.1 19)).toNatClampNeg x1)) 15 (upd (S.2 15) ((S.1 19)).toNatClampNeg (S.1 18))) 18 ((S.1 18) + (1 : Int32))))) C 47 8 0 18 hin_8 tyX8 tyX8_ok nmX8 rfl rfl (by decide) wf_X8_81 rfl rfl rfl (Nat.le_of_ble_eq_true rfl) dX8_statement_44 rfl rfl ?_
    refine g_aload_n C 48 1 dX8_statement_47 rfl rfl ?_
    refine g_iload_n C 49 0 dX8_statement_48 rfl rfl ?_
    refine g_iconst C 50 (3 : Int32) dX8_statement_49 rfl rfl ?_
    refine g_aload_n C 51 1 dX8_statement_50 rfl rfl ?_
    refine g_get (v := .int (S.1 19)) C 54 8 0 19 hin_8 rfl rfl (by decide) wf_X8_100 rfl dX8_statement_51 rfl ?_
    refine g_imul C 55 dX8_statement_54 rfl ?_
    refine bnd h (fun x3 e3 h => ?_)
    refine g_callVs (w' := (cells8 L o u x3.2)) C 58 [] [.int x3.1] (ct_X8_readsAll L o u (su (sa (sa S 14 (upd (S.2 14) ((S.1 19)).toNatClampNeg x1)) 15 (upd (S.2 15) ((S.1 19)).toNatClampNeg (S.1 18))) 18 ((S.1 18) + (1 : Int32))) x1 ((3 : Int32) * (S.1 19)) x3 e3) kX8_readsAll kvX8_readsAll wl_X8_103 8 0 rfl rfl rfl rfl rfl rfl rfl (Nat.le_of_ble_eq_true rfl) ⟨Nat.le_of_ble_eq_true rfl, Nat.le_of_ble_eq_true rfl⟩ ⟨Nat.zero_le _, Nat.zero_le _⟩ dX8_statement_55 rfl ?_
    refine g_if_eq C 70 61 dX8_statement_58 (by decide) rfl (fun c => ?_) (fun c => ?_)
    · have h := ifT c h
      refine g_iconst C 71 (0 : Int32) dX8_statement_70 rfl rfl ?_
      exact g_zret (st := []) C E dX8_statement_71 rfl (by obtain rfl := Option.some.inj h; exact ⟨rfl, rfl⟩)
    · have h := ifF c h
      refine g_aload_n C 62 1 dX8_statement_61 rfl rfl ?_
      refine bnd h (fun x4 e4 h => ?_)
      refine g_callVs (w' := (cells8 L o u x3.2)) C 65 [] [.int x4] (ct_X8_next L o u x3.2 x4 e4) kX8_next kvX8_next wl_X8_84 8 0 rfl rfl rfl rfl rfl rfl rfl (Nat.le_of_ble_eq_true rfl) ⟨Nat.le_of_ble_eq_true rfl, Nat.le_of_ble_eq_true rfl⟩ ⟨Nat.zero_le _, Nat.zero_le _⟩ dX8_statement_62 rfl ?_
      refine g_bipush C 67 (59 : Int32) dX8_statement_65 rfl rfl ?_
      refine g_icmp_eq C 72 70 dX8_statement_67 (by decide) rfl (fun c => ?_) (fun c => ?_)
      · have h := ifT c h
        refine g_aload_n C 73 1 dX8_statement_72 rfl rfl ?_
        refine g_dup C 74 dX8_statement_73 rfl rfl ?_
        refine g_get (v := .int (x3.2.1 18)) C 77 8 0 18 hin_8 rfl rfl (by decide) wf_X8_81 rfl dX8_statement_74 rfl ?_
        refine g_iconst C 78 (1 : Int32) dX8_statement_77 rfl rfl ?_
        refine g_iadd C 79 dX8_statement_78 rfl ?_
        refine g_put (w' := (cells8 L o u (su x3.2 18 ((x3.2.1 18) + (1 : Int32))))) C 82 8 0 18 hin_8 tyX8 tyX8_ok nmX8 rfl rfl (by decide) wf_X8_81 rfl rfl rfl (Nat.le_of_ble_eq_true rfl) dX8_statement_79 rfl rfl ?_
        refine g_iconst C 83 (1 : Int32) dX8_statement_82 rfl rfl ?_
        exact g_zret (st := []) C E dX8_statement_83 rfl (by obtain rfl := Option.some.inj h; exact ⟨rfl, rfl⟩)
      · have h := ifF c h
        refine g_iconst C 71 (0 : Int32) dX8_statement_70 rfl rfl ?_
        exact g_zret (st := []) C E dX8_statement_71 rfl (by obtain rfl := Option.some.inj h; exact ⟨rfl, rfl⟩)
  · have h := ifT c h
    refine g_iconst C 13 (0 : Int32) dX8_statement_12 rfl rfl ?_
    exact g_zret (st := []) C E dX8_statement_13 rfl (by obtain rfl := Option.some.inj h; exact ⟨rfl, rfl⟩)
set_option maxHeartbeats 4000000 in
set_option maxRecDepth 100000 in
theorem ct_X8_addsStreet (L : LL) (o : Nat) (u : Nat → Nat) (S : OS) (v1 : Int32) (v2 : Int32) (v3 : Int32) (x : OS) (h : f_X8_addsStreet S v1 v2 v3 = some x) : Ct L yX8_addsStreet cX8_addsStreet 4 none (rmk 0 0 0 0) 0 0 [.ref o, .int v1, .int v2, .int v3] (cells8 L o u S) (Pv none (cells8 L o u x)) := by
  refine g_enter (lv := [(0, .ref o), (1, .int v1), (2, .int v2), (3, .int v3)]) kX8_addsStreet rfl rfl (Nat.le_of_ble_eq_true rfl) (fun Γ C E hNL => ?_)
  unfold f_X8_addsStreet at h
  refine g_aload_n C 1 0 dX8_addsStreet_0 rfl rfl ?_
  refine g_get (v := .ref (u 1)) C 4 8 0 1 hin_8 rfl rfl (by decide) wf_X8_13 rfl dX8_addsStreet_1 rfl ?_
  refine g_aload_n C 5 0 dX8_addsStreet_4 rfl rfl ?_
  refine g_get (v := .int (S.1 7)) C 8 8 0 7 hin_8 rfl rfl (by decide) wf_X8_61 rfl dX8_addsStreet_5 rfl ?_
  refine g_iload_n C 9 1 dX8_addsStreet_8 rfl rfl ?_
  refine grdE h (fun hb h => ?_)
  refine g_iast (f := (S.2 1)) (w' := (cells8 L o u (sa S 1 (upd (S.2 1) ((S.1 7)).toNatClampNeg v1)))) C 10 2 rfl hb dX8_addsStreet_9 rfl rfl ?_
  refine g_aload_n C 11 0 dX8_addsStreet_10 rfl rfl ?_
  refine g_get (v := .ref (u 2)) C 14 8 0 2 hin_8 rfl rfl (by decide) wf_X8_16 rfl dX8_addsStreet_11 rfl ?_
  refine g_aload_n C 15 0 dX8_addsStreet_14 rfl rfl ?_
  refine g_get (v := .int (S.1 7)) C 18 8 0 7 hin_8 rfl rfl (by decide) wf_X8_61 rfl dX8_addsStreet_15 rfl ?_
  refine g_iload_n C 19 2 dX8_addsStreet_18 rfl rfl ?_
  refine grdE h (fun hb h => ?_)
  refine g_iast (f := (S.2 2)) (w' := (cells8 L o u (sa (sa S 1 (upd (S.2 1) ((S.1 7)).toNatClampNeg v1)) 2 (upd (S.2 2) ((S.1 7)).toNatClampNeg v2)))) C 20 3 rfl hb dX8_addsStreet_19 rfl rfl ?_
  refine g_aload_n C 21 0 dX8_addsStreet_20 rfl rfl ?_
  refine g_get (v := .ref (u 3)) C 24 8 0 3 hin_8 rfl rfl (by decide) wf_X8_19 rfl dX8_addsStreet_21 rfl ?_
  refine g_aload_n C 25 0 dX8_addsStreet_24 rfl rfl ?_
  refine g_get (v := .int (S.1 7)) C 28 8 0 7 hin_8 rfl rfl (by decide) wf_X8_61 rfl dX8_addsStreet_25 rfl ?_
  refine g_iload_n C 29 3 dX8_addsStreet_28 rfl rfl ?_
  refine grdE h (fun hb h => ?_)
  refine g_iast (f := (S.2 3)) (w' := (cells8 L o u (sa (sa (sa S 1 (upd (S.2 1) ((S.1 7)).toNatClampNeg v1)) 2 (upd (S.2 2) ((S.1 7)).toNatClampNeg v2)) 3 (upd (S.2 3) ((S.1 7)).toNatClampNeg v3)))) C 30 4 rfl hb dX8_addsStreet_29 rfl rfl ?_
  refine g_aload_n C 31 0 dX8_addsStreet_30 rfl rfl ?_
  refine g_dup C 32 dX8_addsStreet_31 rfl rfl ?_
  refine g_get (v := .int (S.1 7)) C 35 8 0 7 hin_8 rfl rfl (by decide) wf_X8_61 rfl dX8_addsStreet_32 rfl ?_
  refine g_iconst C 36 (1 : Int32) dX8_addsStreet_35 rfl rfl ?_
  refine g_iadd C 37 dX8_addsStreet_36 rfl ?_
  refine g_put (w' := (cells8 L o u (su (sa (sa (sa S 1 (upd (S.2 1) ((S.1 7)).toNatClampNeg v1)) 2 (upd (S.2 2) ((S.1 7)).toNatClampNeg v2)) 3 (upd (S.2 3) ((S.1 7)).toNatClampNeg v3)) 7 ((S.1 7) + (1 : Int32))))) C 40 8 0 7 hin_8 tyX8 tyX8_ok nmX8 rfl rfl (by decide) wf_X8_61 rfl rfl rfl (Nat.le_of_ble_eq_true rfl) dX8_addsStreet_37 rfl rfl ?_
  exact g_vret (st := []) C E dX8_addsStreet_40 (by obtain rfl := Option.some.inj h; exact ⟨rfl, rfl⟩)
set_option maxHeartbeats 4000000 in
set_option maxRecDepth 100000 in
theorem ct_X8_addsLearner (L : LL) (o : Nat) (u : Nat → Nat) (S : OS) (v1 : Int32) (x : OS) (h : f_X8_addsLearner S v1 = some x) : Ct L yX8_addsLearner cX8_addsLearner 2 none (rmk 0 0 0 0) 0 0 [.ref o, .int v1] (cells8 L o u S) (Pv none (cells8 L o u x)) := by
  refine g_enter (lv := [(0, .ref o), (1, .int v1)]) kX8_addsLearner rfl rfl (Nat.le_of_ble_eq_true rfl) (fun Γ C E hNL => ?_)
  unfold f_X8_addsLearner at h
  refine g_aload_n C 1 0 dX8_addsLearner_0 rfl rfl ?_
  refine g_get (v := .ref (u 5)) C 4 8 0 5 hin_8 rfl rfl (by decide) wf_X8_25 rfl dX8_addsLearner_1 rfl ?_
  refine g_aload_n C 5 0 dX8_addsLearner_4 rfl rfl ?_
  refine g_get (v := .int (S.1 9)) C 8 8 0 9 hin_8 rfl rfl (by decide) wf_X8_67 rfl dX8_addsLearner_5 rfl ?_
  refine g_iload_n C 9 1 dX8_addsLearner_8 rfl rfl ?_
  refine grdE h (fun hb h => ?_)
  refine g_iast (f := (S.2 5)) (w' := (cells8 L o u (sa S 5 (upd (S.2 5) ((S.1 9)).toNatClampNeg v1)))) C 10 6 rfl hb dX8_addsLearner_9 rfl rfl ?_
  refine g_aload_n C 11 0 dX8_addsLearner_10 rfl rfl ?_
  refine g_get (v := .ref (u 6)) C 14 8 0 6 hin_8 rfl rfl (by decide) wf_X8_28 rfl dX8_addsLearner_11 rfl ?_
  refine g_aload_n C 15 0 dX8_addsLearner_14 rfl rfl ?_
  refine g_get (v := .int (S.1 9)) C 18 8 0 9 hin_8 rfl rfl (by decide) wf_X8_67 rfl dX8_addsLearner_15 rfl ?_
  refine g_iconst C 19 (0 : Int32) dX8_addsLearner_18 rfl rfl ?_
  refine grdE h (fun hb h => ?_)
  refine g_iast (f := (S.2 6)) (w' := (cells8 L o u (sa (sa S 5 (upd (S.2 5) ((S.1 9)).toNatClampNeg v1)) 6 (upd (S.2 6) ((S.1 9)).toNatClampNeg (0 : Int32))))) C 20 7 rfl hb dX8_addsLearner_19 rfl rfl ?_
  refine g_aload_n C 21 0 dX8_addsLearner_20 rfl rfl ?_
  refine g_dup C 22 dX8_addsLearner_21 rfl rfl ?_
  refine g_get (v := .int (S.1 9)) C 25 8 0 9 hin_8 rfl rfl (by decide) wf_X8_67 rfl dX8_addsLearner_22 rfl ?_
  refine g_iconst C 26 (1 : Int32) dX8_addsLearner_25 rfl rfl ?_
  refine g_iadd C 27 dX8_addsLearner_26 rfl ?_
  refine g_put (w' := (cells8 L o u (su (sa (sa S 5 (upd (S.2 5) ((S.1 9)).toNatClampNeg v1)) 6 (upd (S.2 6) ((S.1 9)).toNatClampNeg (0 : Int32))) 9 ((S.1 9) + (1 : Int32))))) C 30 8 0 9 hin_8 tyX8 tyX8_ok nmX8 rfl rfl (by decide) wf_X8_67 rfl rfl rfl (Nat.le_of_ble_eq_true rfl) dX8_addsLearner_27 rfl rfl ?_
  exact g_vret (st := []) C E dX8_addsLearner_30 (by obtain rfl := Option.some.inj h; exact ⟨rfl, rfl⟩)
set_option maxHeartbeats 4000000 in
set_option maxRecDepth 100000 in
theorem ct_X8_comesNew (L : LL) (o : Nat) (u : Nat → Nat) (S : OS) (v1 : Int32) (v2 : Int32) (x : (Int32 × OS)) (h : f_X8_comesNew S v1 v2 = some x) : Ct L yX8_comesNew cX8_comesNew 3 (some .boolean) (rmk 1 0 0 23) 0 0 [.ref o, .int v1, .int v2] (cells8 L o u S) (Pv (some (.int x.1)) (cells8 L o u x.2)) := by
  refine g_enter (lv := [(0, .ref o), (1, .int v1), (2, .int v2)]) kX8_comesNew rfl rfl (Nat.le_of_ble_eq_true rfl) (fun Γ C E hNL => ?_)
  unfold f_X8_comesNew at h
  refine g_iload_n C 1 1 dX8_comesNew_0 rfl rfl ?_
  refine g_bipush C 3 (115 : Int32) dX8_comesNew_1 rfl rfl ?_
  refine g_icmp_ne C 66 6 dX8_comesNew_3 (by decide) rfl (fun c => ?_) (fun c => ?_)
  · have h := ifF c h
    refine g_iload_n C 67 1 dX8_comesNew_66 rfl rfl ?_
    refine g_bipush C 69 (119 : Int32) dX8_comesNew_67 rfl rfl ?_
    refine g_icmp_ne C 134 72 dX8_comesNew_69 (by decide) rfl (fun c => ?_) (fun c => ?_)
    · have h := ifF c h
      refine g_aload_n C 135 0 dX8_comesNew_134 rfl rfl ?_
      refine g_get (v := .int (S.1 9)) C 138 8 0 9 hin_8 rfl rfl (by decide) wf_X8_67 rfl dX8_comesNew_135 rfl ?_
      refine g_iconst C 139 (5 : Int32) dX8_comesNew_138 rfl rfl ?_
      refine g_icmp_ne C 144 142 dX8_comesNew_139 (by decide) rfl (fun c => ?_) (fun c => ?_)
      · have h := ifF c h
        refine g_aload_n C 145 0 dX8_comesNew_144 rfl rfl ?_
        refine g_aload_n C 146 0 dX8_comesNew_145 rfl rfl ?_
        refine g_get (v := .ref (u 16)) C 149 8 0 16 hin_8 rfl rfl (by decide) wf_X8_40 rfl dX8_comesNew_146 rfl ?_
        refine g_iload_n C 150 2 dX8_comesNew_149 rfl rfl ?_
        refine grdE h (fun hb h => ?_)
        refine g_iald (f := (S.2 16)) C 151 11 rfl hb dX8_comesNew_150 rfl ?_
        refine bnd h (fun x1 e1 h => ?_)
        refine g_callVs (w' := (cells8 L o u x1)) C 154 [] [] (ct_X8_addsLearner L o u S ((S.2 16) (v2).toNatClampNeg) x1 e1) kX8_addsLearner kvX8_addsLearner wl_X8_110 8 0 rfl rfl rfl rfl rfl rfl rfl (Nat.le_of_ble_eq_true rfl) ⟨Nat.le_of_ble_eq_true rfl, Nat.le_of_ble_eq_true rfl⟩ ⟨Nat.zero_le _, Nat.zero_le _⟩ dX8_comesNew_151 rfl ?_
        refine g_iconst C 155 (1 : Int32) dX8_comesNew_154 rfl rfl ?_
        exact g_zret (st := []) C E dX8_comesNew_155 rfl (by obtain rfl := Option.some.inj h; exact ⟨rfl, rfl⟩)
      · have h := ifT c h
        refine g_iconst C 143 (0 : Int32) dX8_comesNew_142 rfl rfl ?_
        exact g_zret (st := []) C E dX8_comesNew_143 rfl (by obtain rfl := Option.some.inj h; exact ⟨rfl, rfl⟩)
    · have h := ifT c h
      refine g_aload_n C 73 0 dX8_comesNew_72 rfl rfl ?_
      refine g_get (v := .ref (u 16)) C 76 8 0 16 hin_8 rfl rfl (by decide) wf_X8_40 rfl dX8_comesNew_73 rfl ?_
      refine g_iload_n C 77 2 dX8_comesNew_76 rfl rfl ?_
      refine grdE h (fun hb h => ?_)
      refine g_iald (f := (S.2 16)) C 78 11 rfl hb dX8_comesNew_77 rfl ?_
      refine g_if_eq C 105 81 dX8_comesNew_78 (by decide) rfl (fun c => ?_) (fun c => ?_)
      · have h := ifT c h
        refine g_iconst C 106 (0 : Int32) dX8_comesNew_105 rfl rfl ?_
        exact g_zret (st := []) C E dX8_comesNew_106 rfl (by obtain rfl := Option.some.inj h; exact ⟨rfl, rfl⟩)
      · have h := ifF c h
        refine g_aload_n C 82 0 dX8_comesNew_81 rfl rfl ?_
        refine g_get (v := .ref (u 16)) C 85 8 0 16 hin_8 rfl rfl (by decide) wf_X8_40 rfl dX8_comesNew_82 rfl ?_
        refine g_iload_n C 86 2 dX8_comesNew_85 rfl rfl ?_
        refine grdE h (fun hb h => ?_)
        refine g_iald (f := (S.2 16)) C 87 11 rfl hb dX8_comesNew_86 rfl ?_
        refine g_iconst C 88 (1 : Int32) dX8_comesNew_87 rfl rfl ?_
        refine g_aload_n C 89 0 dX8_comesNew_88 rfl rfl ?_
        refine g_get (v := .int (S.1 7)) C 92 8 0 7 hin_8 rfl rfl (by decide) wf_X8_61 rfl dX8_comesNew_89 rfl ?_
        refine g_ishl C 93 dX8_comesNew_92 rfl ?_
        refine g_icmp_ge C 105 96 dX8_comesNew_93 (by decide) rfl (fun c => ?_) (fun c => ?_)
        · have h := ifT c h
          refine g_iconst C 106 (0 : Int32) dX8_comesNew_105 rfl rfl ?_
          exact g_zret (st := []) C E dX8_comesNew_106 rfl (by obtain rfl := Option.some.inj h; exact ⟨rfl, rfl⟩)
        · have h := ifF c h
          refine g_aload_n C 97 0 dX8_comesNew_96 rfl rfl ?_
          refine g_get (v := .int (S.1 8)) C 100 8 0 8 hin_8 rfl rfl (by decide) wf_X8_64 rfl dX8_comesNew_97 rfl ?_
          refine g_bipush C 102 (6 : Int32) dX8_comesNew_100 rfl rfl ?_
          refine g_icmp_ne C 107 105 dX8_comesNew_102 (by decide) rfl (fun c => ?_) (fun c => ?_)
          · have h := ifF c h
            refine g_aload_n C 108 0 dX8_comesNew_107 rfl rfl ?_
            refine g_get (v := .ref (u 4)) C 111 8 0 4 hin_8 rfl rfl (by decide) wf_X8_22 rfl dX8_comesNew_108 rfl ?_
            refine g_aload_n C 112 0 dX8_comesNew_111 rfl rfl ?_
            refine g_get (v := .int (S.1 8)) C 115 8 0 8 hin_8 rfl rfl (by decide) wf_X8_64 rfl dX8_comesNew_112 rfl ?_
            refine g_aload_n C 116 0 dX8_comesNew_115 rfl rfl ?_
            refine g_get (v := .ref (u 16)) C 119 8 0 16 hin_8 rfl rfl (by decide) wf_X8_40 rfl dX8_comesNew_116 rfl ?_
            refine g_iload_n C 120 2 dX8_comesNew_119 rfl rfl ?_
            refine grdE h (fun hb h => ?_)
            refine g_iald (f := (S.2 16)) C 121 11 rfl hb dX8_comesNew_120 rfl ?_
            refine grdE h (fun hb h => ?_)
            refine g_iast (f := (S.2 4)) (w' := (cells8 L o u (sa S 4 (upd (S.2 4) ((S.1 8)).toNatClampNeg ((S.2 16) (v2).toNatClampNeg))))) C 122 5 rfl hb dX8_comesNew_121 rfl rfl ?_
            refine g_aload_n C 123 0 dX8_comesNew_122 rfl rfl ?_
            refine g_dup C 124 dX8_comesNew_123 rfl rfl ?_
            refine g_get (v := .int (S.1 8)) C 127 8 0 8 hin_8 rfl rfl (by decide) wf_X8_64 rfl dX8_comesNew_124 rfl ?_
            refine g_iconst C 128 (1 : Int32) dX8_comesNew_127 rfl rfl ?_
            refine g_iadd C 129 dX8_comesNew_128 rfl ?_
            refine g_put (w' := (cells8 L o u (su (sa S 4 (upd (S.2 4) ((S.1 8)).toNatClampNeg ((S.2 16) (v2).toNatClampNeg))) 8 ((S.1 8) + (1 : Int32))))) C 132 8 0 8 hin_8 tyX8 tyX8_ok nmX8 rfl rfl (by decide) wf_X8_64 rfl rfl rfl (Nat.le_of_ble_eq_true rfl) dX8_comesNew_129 rfl rfl ?_
            refine g_iconst C 133 (1 : Int32) dX8_comesNew_132 rfl rfl ?_
            exact g_zret (st := []) C E dX8_comesNew_133 rfl (by obtain rfl := Option.some.inj h; exact ⟨rfl, rfl⟩)
          · have h := ifT c h
            refine g_iconst C 106 (0 : Int32) dX8_comesNew_105 rfl rfl ?_
            exact g_zret (st := []) C E dX8_comesNew_106 rfl (by obtain rfl := Option.some.inj h; exact ⟨rfl, rfl⟩)
  · have h := ifT c h
    refine g_aload_n C 7 0 dX8_comesNew_6 rfl rfl ?_
    refine g_get (v := .ref (u 16)) C 10 8 0 16 hin_8 rfl rfl (by decide) wf_X8_40 rfl dX8_comesNew_7 rfl ?_
    refine g_iload_n C 11 2 dX8_comesNew_10 rfl rfl ?_
    refine grdE h (fun hb h => ?_)
    refine g_iald (f := (S.2 16)) C 12 11 rfl hb dX8_comesNew_11 rfl ?_
    refine g_iconst C 13 (5 : Int32) dX8_comesNew_12 rfl rfl ?_
    refine g_icmp_gt C 36 16 dX8_comesNew_13 (by decide) rfl (fun c => ?_) (fun c => ?_)
    · have h := ifT c h
      refine g_iconst C 37 (0 : Int32) dX8_comesNew_36 rfl rfl ?_
      exact g_zret (st := []) C E dX8_comesNew_37 rfl (by obtain rfl := Option.some.inj h; exact ⟨rfl, rfl⟩)
    · have h := ifF c h
      refine g_aload_n C 17 0 dX8_comesNew_16 rfl rfl ?_
      refine g_get (v := .ref (u 16)) C 20 8 0 16 hin_8 rfl rfl (by decide) wf_X8_40 rfl dX8_comesNew_17 rfl ?_
      refine g_iload_n C 21 2 dX8_comesNew_20 rfl rfl ?_
      refine g_iconst C 22 (2 : Int32) dX8_comesNew_21 rfl rfl ?_
      refine g_iadd C 23 dX8_comesNew_22 rfl ?_
      refine grdE h (fun hb h => ?_)
      refine g_iald (f := (S.2 16)) C 24 11 rfl hb dX8_comesNew_23 rfl ?_
      refine g_if_eq C 36 27 dX8_comesNew_24 (by decide) rfl (fun c => ?_) (fun c => ?_)
      · have h := ifT c h
        refine g_iconst C 37 (0 : Int32) dX8_comesNew_36 rfl rfl ?_
        exact g_zret (st := []) C E dX8_comesNew_37 rfl (by obtain rfl := Option.some.inj h; exact ⟨rfl, rfl⟩)
      · have h := ifF c h
        refine g_aload_n C 28 0 dX8_comesNew_27 rfl rfl ?_
        refine g_get (v := .int (S.1 7)) C 31 8 0 7 hin_8 rfl rfl (by decide) wf_X8_61 rfl dX8_comesNew_28 rfl ?_
        refine g_bipush C 33 (8 : Int32) dX8_comesNew_31 rfl rfl ?_
        refine g_icmp_ne C 38 36 dX8_comesNew_33 (by decide) rfl (fun c => ?_) (fun c => ?_)
        · have h := ifF c h
          refine g_aload_n C 39 0 dX8_comesNew_38 rfl rfl ?_
          refine g_aload_n C 40 0 dX8_comesNew_39 rfl rfl ?_
          refine g_get (v := .ref (u 16)) C 43 8 0 16 hin_8 rfl rfl (by decide) wf_X8_40 rfl dX8_comesNew_40 rfl ?_
          refine g_iload_n C 44 2 dX8_comesNew_43 rfl rfl ?_
          refine grdE h (fun hb h => ?_)
          refine g_iald (f := (S.2 16)) C 45 11 rfl hb dX8_comesNew_44 rfl ?_
          refine g_aload_n C 46 0 dX8_comesNew_45 rfl rfl ?_
          refine g_get (v := .ref (u 16)) C 49 8 0 16 hin_8 rfl rfl (by decide) wf_X8_40 rfl dX8_comesNew_46 rfl ?_
          refine g_iload_n C 50 2 dX8_comesNew_49 rfl rfl ?_
          refine g_iconst C 51 (1 : Int32) dX8_comesNew_50 rfl rfl ?_
          refine g_iadd C 52 dX8_comesNew_51 rfl ?_
          refine grdE h (fun hb h => ?_)
          refine g_iald (f := (S.2 16)) C 53 11 rfl hb dX8_comesNew_52 rfl ?_
          refine g_aload_n C 54 0 dX8_comesNew_53 rfl rfl ?_
          refine g_get (v := .ref (u 16)) C 57 8 0 16 hin_8 rfl rfl (by decide) wf_X8_40 rfl dX8_comesNew_54 rfl ?_
          refine g_iload_n C 58 2 dX8_comesNew_57 rfl rfl ?_
          refine g_iconst C 59 (2 : Int32) dX8_comesNew_58 rfl rfl ?_
          refine g_iadd C 60 dX8_comesNew_59 rfl ?_
          refine grdE h (fun hb h => ?_)
          refine g_iald (f := (S.2 16)) C 61 11 rfl hb dX8_comesNew_60 rfl ?_
          refine bnd h (fun x2 e2 h => ?_)
          refine g_callVs (w' := (cells8 L o u x2)) C 64 [] [] (ct_X8_addsStreet L o u S ((S.2 16) (v2).toNatClampNeg) ((S.2 16) ((v2 + (1 : Int32))).toNatClampNeg) ((S.2 16) ((v2 + (2 : Int32))).toNatClampNeg) x2 e2) kX8_addsStreet kvX8_addsStreet wl_X8_106 8 0 rfl rfl rfl rfl rfl rfl rfl (Nat.le_of_ble_eq_true rfl) ⟨Nat.le_of_ble_eq_true rfl, Nat.le_of_ble_eq_true rfl⟩ ⟨Nat.zero_le _, Nat.zero_le _⟩ dX8_comesNew_61 rfl ?_
          refine g_iconst C 65 (1 : Int32) dX8_comesNew_64 rfl rfl ?_
          exact g_zret (st := []) C E dX8_comesNew_65 rfl (by obtain rfl := Option.some.inj h; exact ⟨rfl, rfl⟩)
        · have h := ifT c h
          refine g_iconst C 37 (0 : Int32) dX8_comesNew_36 rfl rfl ?_
          exact g_zret (st := []) C E dX8_comesNew_37 rfl (by obtain rfl := Option.some.inj h; exact ⟨rfl, rfl⟩)
set_option maxHeartbeats 4000000 in
set_option maxRecDepth 100000 in
theorem ct_X8_comesOne (L : LL) (o : Nat) (u : Nat → Nat) (S : OS) (v1 : Int32) (v2 : Int32) (v3 : Int32) (x : (Int32 × OS)) (h : f_X8_comesOne S v1 v2 v3 = some x) : Ct L yX8_comesOne cX8_comesOne 4 (some .boolean) (rmk 1 0 0 21) 0 0 [.ref o, .int v1, .int v2, .int v3] (cells8 L o u S) (Pv (some (.int x.1)) (cells8 L o u x.2)) := by
  refine g_enter (lv := [(0, .ref o), (1, .int v1), (2, .int v2), (3, .int v3)]) kX8_comesOne rfl rfl (Nat.le_of_ble_eq_true rfl) (fun Γ C E hNL => ?_)
  have J_35 : ∀ (v1 : Int32) (v2 : Int32) (v3 : Int32) (S : OS), j_X8_comesOne_35   v1 v2 v3 S = some x → G L Γ 0 0 (cells8 L o u S) 35 [(0, .ref o), (1, .int v1), (2, .int v2), (3, .int v3)] [] := by
    intro v1 v2 v3 S h
    unfold j_X8_comesOne_35 at h
    refine g_iload_n C 36 1 dX8_comesOne_35 rfl rfl ?_
    refine g_bipush C 38 (107 : Int32) dX8_comesOne_36 rfl rfl ?_
    refine g_icmp_ne C 56 41 dX8_comesOne_38 (by decide) rfl (fun c => ?_) (fun c => ?_)
    · have h := ifF c h
      refine g_aload_n C 57 0 dX8_comesOne_56 rfl rfl ?_
      refine g_get (v := .ref (u 6)) C 60 8 0 6 hin_8 rfl rfl (by decide) wf_X8_28 rfl dX8_comesOne_57 rfl ?_
      refine g_iload_n C 61 2 dX8_comesOne_60 rfl rfl ?_
      refine g_dup2 C 62 dX8_comesOne_61 rfl rfl rfl ?_
      refine grdE h (fun hb h => ?_)
      refine g_iald (f := (S.2 6)) C 63 7 rfl hb dX8_comesOne_62 rfl ?_
      refine g_aload_n C 64 0 dX8_comesOne_63 rfl rfl ?_
      refine g_get (v := .ref (u 4)) C 67 8 0 4 hin_8 rfl rfl (by decide) wf_X8_22 rfl dX8_comesOne_64 rfl ?_
      refine g_iload_n C 68 3 dX8_comesOne_67 rfl rfl ?_
      refine grdE h (fun hb h => ?_)
      refine g_iald (f := (S.2 4)) C 69 5 rfl hb dX8_comesOne_68 rfl ?_
      refine g_ior C 70 dX8_comesOne_69 rfl ?_
      refine grdE h (fun hb h => ?_)
      refine g_iast (f := (S.2 6)) (w' := (cells8 L o u (sa S 6 (upd (S.2 6) (v2).toNatClampNeg (((S.2 6) (v2).toNatClampNeg) ||| ((S.2 4) (v3).toNatClampNeg)))))) C 71 7 rfl hb dX8_comesOne_70 rfl rfl ?_
      refine g_iconst C 72 (1 : Int32) dX8_comesOne_71 rfl rfl ?_
      exact g_zret (st := []) C E dX8_comesOne_72 rfl (by obtain rfl := Option.some.inj h; exact ⟨rfl, rfl⟩)
    · have h := ifT c h
      refine g_aload_n C 42 0 dX8_comesOne_41 rfl rfl ?_
      refine g_get (v := .ref (u 6)) C 45 8 0 6 hin_8 rfl rfl (by decide) wf_X8_28 rfl dX8_comesOne_42 rfl ?_
      refine g_iload_n C 46 2 dX8_comesOne_45 rfl rfl ?_
      refine g_dup2 C 47 dX8_comesOne_46 rfl rfl rfl ?_
      refine grdE h (fun hb h => ?_)
      refine g_iald (f := (S.2 6)) C 48 7 rfl hb dX8_comesOne_47 rfl ?_
      refine g_iconst C 49 (1 : Int32) dX8_comesOne_48 rfl rfl ?_
      refine g_iload_n C 50 3 dX8_comesOne_49 rfl rfl ?_
      refine g_ishl C 51 dX8_comesOne_50 rfl ?_
      refine g_ixor C 52 dX8_comesOne_51 rfl ?_
      refine grdE h (fun hb h => ?_)
      refine g_iast (f := (S.2 6)) (w' := (cells8 L o u (sa S 6 (upd (S.2 6) (v2).toNatClampNeg (((S.2 6) (v2).toNatClampNeg) ^^^ ((1 : Int32) <<< (v3 &&& 31))))))) C 53 7 rfl hb dX8_comesOne_52 rfl rfl ?_
      refine g_goto C 71 dX8_comesOne_53 (by decide) ?_
      refine g_iconst C 72 (1 : Int32) dX8_comesOne_71 rfl rfl ?_
      exact g_zret (st := []) C E dX8_comesOne_72 rfl (by obtain rfl := Option.some.inj h; exact ⟨rfl, rfl⟩)
  unfold f_X8_comesOne at h
  refine g_aload_n C 1 0 dX8_comesOne_0 rfl rfl ?_
  refine g_iload_n C 2 2 dX8_comesOne_1 rfl rfl ?_
  refine bnd h (fun x1 e1 h => ?_)
  refine g_callVs (w' := (cells8 L o u S)) C 5 [] [.int x1] (ct_X8_isLearner L o u S v2 x1 e1) kX8_isLearner kvX8_isLearner wl_X8_114 8 0 rfl rfl rfl rfl rfl rfl rfl (Nat.le_of_ble_eq_true rfl) ⟨Nat.le_of_ble_eq_true rfl, Nat.le_of_ble_eq_true rfl⟩ ⟨Nat.zero_le _, Nat.zero_le _⟩ dX8_comesOne_2 rfl ?_
  refine g_if_eq C 33 8 dX8_comesOne_5 (by decide) rfl (fun c => ?_) (fun c => ?_)
  · have h := ifT c h
    refine g_iconst C 34 (0 : Int32) dX8_comesOne_33 rfl rfl ?_
    exact g_zret (st := []) C E dX8_comesOne_34 rfl (by obtain rfl := Option.some.inj h; exact ⟨rfl, rfl⟩)
  · have h := ifF c h
    refine g_iload_n C 9 1 dX8_comesOne_8 rfl rfl ?_
    refine g_bipush C 11 (107 : Int32) dX8_comesOne_9 rfl rfl ?_
    refine g_icmp_ne C 25 14 dX8_comesOne_11 (by decide) rfl (fun c => ?_) (fun c => ?_)
    · have h := ifF c h
      refine g_aload_n C 26 0 dX8_comesOne_25 rfl rfl ?_
      refine g_iload_n C 27 3 dX8_comesOne_26 rfl rfl ?_
      refine bnd h (fun x2 e2 h => ?_)
      refine g_callVs (w' := (cells8 L o u S)) C 30 [] [.int x2] (ct_X8_isWay L o u S v3 x2 e2) kX8_isWay kvX8_isWay wl_X8_120 8 0 rfl rfl rfl rfl rfl rfl rfl (Nat.le_of_ble_eq_true rfl) ⟨Nat.le_of_ble_eq_true rfl, Nat.le_of_ble_eq_true rfl⟩ ⟨Nat.zero_le _, Nat.zero_le _⟩ dX8_comesOne_27 rfl ?_
      refine g_if_ne C 35 33 dX8_comesOne_30 (by decide) rfl (fun c => ?_) (fun c => ?_)
      · have h := ifF c h
        exact J_35 _ _ _ _ h
      · have h := ifT c h
        refine g_iconst C 34 (0 : Int32) dX8_comesOne_33 rfl rfl ?_
        exact g_zret (st := []) C E dX8_comesOne_34 rfl (by obtain rfl := Option.some.inj h; exact ⟨rfl, rfl⟩)
    · have h := ifT c h
      refine g_aload_n C 15 0 dX8_comesOne_14 rfl rfl ?_
      refine g_iload_n C 16 3 dX8_comesOne_15 rfl rfl ?_
      refine bnd h (fun x3 e3 h => ?_)
      refine g_callVs (w' := (cells8 L o u S)) C 19 [] [.int x3] (ct_X8_isStreet L o u S v3 x3 e3) kX8_isStreet kvX8_isStreet wl_X8_117 8 0 rfl rfl rfl rfl rfl rfl rfl (Nat.le_of_ble_eq_true rfl) ⟨Nat.le_of_ble_eq_true rfl, Nat.le_of_ble_eq_true rfl⟩ ⟨Nat.zero_le _, Nat.zero_le _⟩ dX8_comesOne_16 rfl ?_
      refine g_if_ne C 35 22 dX8_comesOne_19 (by decide) rfl (fun c => ?_) (fun c => ?_)
      · have h := ifF c h
        exact J_35 _ _ _ _ h
      · have h := ifT c h
        refine g_goto C 33 dX8_comesOne_22 (by decide) ?_
        refine g_iconst C 34 (0 : Int32) dX8_comesOne_33 rfl rfl ?_
        exact g_zret (st := []) C E dX8_comesOne_34 rfl (by obtain rfl := Option.some.inj h; exact ⟨rfl, rfl⟩)
set_option maxHeartbeats 4000000 in
set_option maxRecDepth 100000 in
theorem ct_X8_goesDay (L : LL) (o : Nat) (u : Nat → Nat) (S : OS) (x : OS) (h : f_X8_goesDay S = some x) : Ct L yX8_goesDay cX8_goesDay 3 none (rmk 1 0 0 21) 0 0 [.ref o] (cells8 L o u S) (Pv none (cells8 L o u x)) := by
  refine g_enter (lv := [(0, .ref o)]) kX8_goesDay rfl rfl (Nat.le_of_ble_eq_true rfl) (fun Γ C E hNL => ?_)
  have J_18 : ∀ (n : Nat)  (v1 : Int32) (S : OS), Lp2 (b_X8_goesDay_18   ) n v1 S = some x → G L Γ 0 0 (cells8 L o u S) 18 [(0, .ref o), (1, .int v1)] [] := by
    intro n 
    refine lp_ok2 (fun v1 S => G L Γ 0 0 (cells8 L o u S) 18 [(0, .ref o), (1, .int v1)] []) (fun k_18 hk_18 => ?_) n
    have J_70 : ∀ (v1 : Int32) (S : OS), j_X8_goesDay_70  k_18 v1 S = some x → G L Γ 0 0 (cells8 L o u S) 70 [(0, .ref o), (1, .int v1)] [] := by
      intro v1 S h
      unfold j_X8_goesDay_70 at h
      refine g_iinc C 73 (1 : Int32) 1 [(1, .int (v1 + (1 : Int32))), (0, .ref o)] dX8_goesDay_70 rfl rfl 3 hNL (by decide) rfl rfl ?_
      refine g_goto C 18 dX8_goesDay_73 (by decide) ?_
      refine g_lv (lv' := [(0, .ref o), (1, .int (v1 + (1 : Int32)))]) [1, 0] rfl ?_
      exact hk_18 _ _ h
    have J_52 : ∀ (v1 : Int32) (v2 : Int32) (S : OS), j_X8_goesDay_52  k_18 v1 v2 S = some x → G L Γ 0 0 (cells8 L o u S) 52 [(0, .ref o), (1, .int v1), (2, .int v2)] [] := by
      intro v1 v2 S h
      unfold j_X8_goesDay_52 at h
      refine g_iload_n C 53 2 dX8_goesDay_52 rfl rfl ?_
      refine g_if_lt C 70 56 dX8_goesDay_53 (by decide) rfl (fun c => ?_) (fun c => ?_)
      · have h := ifT c h
        refine g_lv (lv' := [(0, .ref o), (1, .int v1)]) [0, 1] rfl ?_
        exact J_70 _ _ h
      · have h := ifF c h
        refine g_aload_n C 57 0 dX8_goesDay_56 rfl rfl ?_
        refine g_get (v := .ref (u 6)) C 60 8 0 6 hin_8 rfl rfl (by decide) wf_X8_28 rfl dX8_goesDay_57 rfl ?_
        refine g_iload_n C 61 1 dX8_goesDay_60 rfl rfl ?_
        refine g_dup2 C 62 dX8_goesDay_61 rfl rfl rfl ?_
        refine grdE h (fun hb h => ?_)
        refine g_iald (f := (S.2 6)) C 63 7 rfl hb dX8_goesDay_62 rfl ?_
        refine g_iconst C 64 (1 : Int32) dX8_goesDay_63 rfl rfl ?_
        refine g_iload_n C 65 2 dX8_goesDay_64 rfl rfl ?_
        refine g_ishl C 66 dX8_goesDay_65 rfl ?_
        refine g_iconst C 67 (-1 : Int32) dX8_goesDay_66 rfl rfl ?_
        refine g_ixor C 68 dX8_goesDay_67 rfl ?_
        refine g_iand C 69 dX8_goesDay_68 rfl ?_
        refine grdE h (fun hb h => ?_)
        refine g_iast (f := (S.2 6)) (w' := (cells8 L o u (sa S 6 (upd (S.2 6) (v1).toNatClampNeg (((S.2 6) (v1).toNatClampNeg) &&& (((1 : Int32) <<< (v2 &&& 31)) ^^^ (-1 : Int32))))))) C 70 7 rfl hb dX8_goesDay_69 rfl rfl ?_
        refine g_lv (lv' := [(0, .ref o), (1, .int v1)]) [0, 1] rfl ?_
        exact J_70 _ _ h
    have J_29 : ∀ (n : Nat) (v1 : Int32) (S : OS) (v2 : Int32), Lp1 (b_X8_goesDay_29  k_18 v1 S) n v2 = some x → G L Γ 0 0 (cells8 L o u S) 29 [(0, .ref o), (1, .int v1), (2, .int v2)] [] := by
      intro n v1 S
      refine lp_ok1 (fun v2 => G L Γ 0 0 (cells8 L o u S) 29 [(0, .ref o), (1, .int v1), (2, .int v2)] []) (fun k_29 hk_29 => ?_) n
      intro v2 h
      unfold b_X8_goesDay_29 at h
      refine g_iload_n C 30 2 dX8_goesDay_29 rfl rfl ?_
      refine g_if_lt C 52 33 dX8_goesDay_30 (by decide) rfl (fun c => ?_) (fun c => ?_)
      · have h := ifT c h
        exact J_52 _ _ _ h
      · have h := ifF c h
        refine g_aload_n C 34 0 dX8_goesDay_33 rfl rfl ?_
        refine g_get (v := .ref (u 6)) C 37 8 0 6 hin_8 rfl rfl (by decide) wf_X8_28 rfl dX8_goesDay_34 rfl ?_
        refine g_iload_n C 38 1 dX8_goesDay_37 rfl rfl ?_
        refine grdE h (fun hb h => ?_)
        refine g_iald (f := (S.2 6)) C 39 7 rfl hb dX8_goesDay_38 rfl ?_
        refine g_iload_n C 40 2 dX8_goesDay_39 rfl rfl ?_
        refine bnd h (fun x1 e1 h => ?_)
        refine g_callSr C 43 [] [.int x1] (ct_X8_has L ((S.2 6) (v1).toNatClampNeg) v2 x1 e1) kX8_has kvX8_has wl_X8_173 [] rfl rfl rfl rfl rfl (Nat.le_of_ble_eq_true rfl) ⟨Nat.le_of_ble_eq_true rfl, Nat.le_of_ble_eq_true rfl⟩ ⟨Nat.zero_le _, Nat.zero_le _⟩ dX8_goesDay_40 rfl ?_
        refine g_if_ne C 52 46 dX8_goesDay_43 (by decide) rfl (fun c => ?_) (fun c => ?_)
        · have h := ifF c h
          exact J_52 _ _ _ h
        · have h := ifT c h
          refine g_iinc C 49 (-1 : Int32) 2 [(2, .int (v2 + (-1 : Int32))), (0, .ref o), (1, .int v1)] dX8_goesDay_46 rfl rfl 3 hNL (by decide) rfl rfl ?_
          refine g_goto C 29 dX8_goesDay_49 (by decide) ?_
          refine g_lv (lv' := [(0, .ref o), (1, .int v1), (2, .int (v2 + (-1 : Int32)))]) [1, 2, 0] rfl ?_
          exact hk_29 _ h
    intro v1 S h
    unfold b_X8_goesDay_18 at h
    refine g_iload_n C 19 1 dX8_goesDay_18 rfl rfl ?_
    refine g_aload_n C 20 0 dX8_goesDay_19 rfl rfl ?_
    refine g_get (v := .int (S.1 9)) C 23 8 0 9 hin_8 rfl rfl (by decide) wf_X8_67 rfl dX8_goesDay_20 rfl ?_
    refine g_icmp_ge C 76 26 dX8_goesDay_23 (by decide) rfl (fun c => ?_) (fun c => ?_)
    · have h := ifT c h
      exact g_vret (st := []) C E dX8_goesDay_76 (by obtain rfl := Option.some.inj h; exact ⟨rfl, rfl⟩)
    · have h := ifF c h
      refine g_bipush C 28 (7 : Int32) dX8_goesDay_26 rfl rfl ?_
      refine g_istore_n C 29 2 [(2, .int (7 : Int32)), (0, .ref o), (1, .int v1)] dX8_goesDay_28 rfl rfl 3 hNL (by decide) rfl ?_
      refine g_lv (lv' := [(0, .ref o), (1, .int v1), (2, .int (7 : Int32))]) [1, 2, 0] rfl ?_
      exact J_29 _ _ _ _ h
  unfold f_X8_goesDay at h
  refine g_aload_n C 1 0 dX8_goesDay_0 rfl rfl ?_
  refine g_dup C 2 dX8_goesDay_1 rfl rfl ?_
  refine g_get (v := .int (S.1 12)) C 5 8 0 12 hin_8 rfl rfl (by decide) wf_X8_129 rfl dX8_goesDay_2 rfl ?_
  refine g_iconst C 6 (1 : Int32) dX8_goesDay_5 rfl rfl ?_
  refine g_iadd C 7 dX8_goesDay_6 rfl ?_
  refine g_put (w' := (cells8 L o u (su S 12 ((S.1 12) + (1 : Int32))))) C 10 8 0 12 hin_8 tyX8 tyX8_ok nmX8 rfl rfl (by decide) wf_X8_129 rfl rfl rfl (Nat.le_of_ble_eq_true rfl) dX8_goesDay_7 rfl rfl ?_
  refine g_aload_n C 11 0 dX8_goesDay_10 rfl rfl ?_
  refine g_bipush C 13 (8 : Int32) dX8_goesDay_11 rfl rfl ?_
  refine g_put (w' := (cells8 L o u (su (su S 12 ((S.1 12) + (1 : Int32))) 10 (8 : Int32)))) C 16 8 0 10 hin_8 tyX8 tyX8_ok nmX8 rfl rfl (by decide) wf_X8_52 rfl rfl rfl (Nat.le_of_ble_eq_true rfl) dX8_goesDay_13 rfl rfl ?_
  refine g_iconst C 17 (0 : Int32) dX8_goesDay_16 rfl rfl ?_
  refine g_istore_n C 18 1 [(1, .int (0 : Int32)), (0, .ref o)] dX8_goesDay_17 rfl rfl 3 hNL (by decide) rfl ?_
  refine g_lv (lv' := [(0, .ref o), (1, .int (0 : Int32))]) [1, 0] rfl ?_
  exact J_18 _ _ _ h
set_option maxHeartbeats 4000000 in
set_option maxRecDepth 100000 in
theorem ct_X8_comes (L : LL) (o : Nat) (u : Nat → Nat) (S : OS) (v1 : Int32) (x : (Int32 × OS)) (h : f_X8_comes S v1 = some x) : Ct L yX8_comes cX8_comes 3 (some .boolean) (rmk 2 0 0 45) 0 0 [.ref o, .int v1] (cells8 L o u S) (Pv (some (.int x.1)) (cells8 L o u x.2)) := by
  refine g_enter (lv := [(0, .ref o), (1, .int v1)]) kX8_comes rfl rfl (Nat.le_of_ble_eq_true rfl) (fun Γ C E hNL => ?_)
  unfold f_X8_comes at h
  refine g_iconst C 1 (3 : Int32) dX8_comes_0 rfl rfl ?_
  refine g_iload_n C 2 1 dX8_comes_1 rfl rfl ?_
  refine g_imul C 3 dX8_comes_2 rfl ?_
  refine g_istore_n C 4 2 [(2, .int ((3 : Int32) * v1)), (0, .ref o), (1, .int v1)] dX8_comes_3 rfl rfl 3 hNL (by decide) rfl ?_
  refine g_aload_n C 5 1 dX8_comes_4 rfl rfl ?_
  refine g_get (v := .ref (u 14)) C 8 8 0 14 hin_8 rfl rfl (by decide) wf_X8_34 rfl dX8_comes_5 rfl ?_
  refine g_iload_n C 9 2 dX8_comes_8 rfl rfl ?_
  refine grdE h (fun hb h => ?_)
  refine g_iald (f := (S.2 14)) C 10 9 rfl hb dX8_comes_9 rfl ?_
  by_cases c100 : ((S.2 14) (v1).toNatClampNeg) = (100 : Int32)
  · have h := ifT c100 h
    refine g_lookup C 115 (105) dX8_comes_10 (by decide +kernel) (by rw [c100]; rfl) (by decide) ?_
    refine g_aload_n C 116 1 dX8_comes_115 rfl rfl ?_
    refine g_get (v := .int (S.1 12)) C 119 8 0 12 hin_8 rfl rfl (by decide) wf_X8_129 rfl dX8_comes_116 rfl ?_
    refine g_sipush C 122 (999 : Int32) dX8_comes_119 rfl rfl ?_
    refine g_icmp_ne C 127 125 dX8_comes_122 (by decide) rfl (fun c => ?_) (fun c => ?_)
    · have h := ifF c h
      refine g_aload_n C 128 1 dX8_comes_127 rfl rfl ?_
      refine bnd h (fun x1 e1 h => ?_)
      refine g_callVs (w' := (cells8 L o u x1)) C 131 [] [] (ct_X8_goesDay L o u S x1 e1) kX8_goesDay kvX8_goesDay wl_X8_132 8 0 rfl rfl rfl rfl rfl rfl rfl (Nat.le_of_ble_eq_true rfl) ⟨Nat.le_of_ble_eq_true rfl, Nat.le_of_ble_eq_true rfl⟩ ⟨Nat.zero_le _, Nat.zero_le _⟩ dX8_comes_128 rfl ?_
      refine g_iconst C 132 (1 : Int32) dX8_comes_131 rfl rfl ?_
      exact g_zret (st := []) C E dX8_comes_132 rfl (by obtain rfl := Option.some.inj h; exact ⟨rfl, rfl⟩)
    · have h := ifT c h
      refine g_iconst C 126 (0 : Int32) dX8_comes_125 rfl rfl ?_
      exact g_zret (st := []) C E dX8_comes_126 rfl (by obtain rfl := Option.some.inj h; exact ⟨rfl, rfl⟩)
  have h := ifF c100 h
  by_cases c104 : ((S.2 14) (v1).toNatClampNeg) = (104 : Int32)
  · have h := ifT c104 h
    refine g_lookup C 85 (75) dX8_comes_10 (by decide +kernel) (by rw [c104]; rfl) (by decide) ?_
    refine g_aload_n C 86 1 dX8_comes_85 rfl rfl ?_
    refine g_aload_n C 87 1 dX8_comes_86 rfl rfl ?_
    refine g_get (v := .ref (u 16)) C 90 8 0 16 hin_8 rfl rfl (by decide) wf_X8_40 rfl dX8_comes_87 rfl ?_
    refine g_iload_n C 91 0 dX8_comes_90 rfl rfl ?_
    refine grdE h (fun hb h => ?_)
    refine g_iald (f := (S.2 16)) C 92 11 rfl hb dX8_comes_91 rfl ?_
    refine g_put (w' := (cells8 L o u (su S 10 ((S.2 16) (((3 : Int32) * v1)).toNatClampNeg)))) C 95 8 0 10 hin_8 tyX8 tyX8_ok nmX8 rfl rfl (by decide) wf_X8_52 rfl rfl rfl (Nat.le_of_ble_eq_true rfl) dX8_comes_92 rfl rfl ?_
    refine g_aload_n C 96 1 dX8_comes_95 rfl rfl ?_
    refine g_get (v := .int ((S.2 16) (((3 : Int32) * v1)).toNatClampNeg)) C 99 8 0 10 hin_8 rfl rfl (by decide) wf_X8_52 rfl dX8_comes_96 rfl ?_
    refine bnd h (fun x2 e2 h => ?_)
    refine g_callSr C 102 [] [.int x2] (ct_X8_isHour L ((S.2 16) (((3 : Int32) * v1)).toNatClampNeg) x2 e2) kX8_isHour kvX8_isHour wl_X8_126 [] rfl rfl rfl rfl rfl (Nat.le_of_ble_eq_true rfl) ⟨Nat.le_of_ble_eq_true rfl, Nat.le_of_ble_eq_true rfl⟩ ⟨Nat.zero_le _, Nat.zero_le _⟩ dX8_comes_99 rfl ?_
    refine grdE h (fun hb h => ?_)
    exact g_zret (st := []) C E dX8_comes_102 hb (by obtain rfl := Option.some.inj h; exact ⟨rfl, rfl⟩)
  have h := ifF c104 h
  by_cases c107 : ((S.2 14) (v1).toNatClampNeg) = (107 : Int32)
  · have h := ifT c107 h
    refine g_lookup C 60 (50) dX8_comes_10 (by decide +kernel) (by rw [c107]; rfl) (by decide) ?_
    refine g_aload_n C 61 1 dX8_comes_60 rfl rfl ?_
    refine g_aload_n C 62 1 dX8_comes_61 rfl rfl ?_
    refine g_get (v := .ref (u 14)) C 65 8 0 14 hin_8 rfl rfl (by decide) wf_X8_34 rfl dX8_comes_62 rfl ?_
    refine g_iload_n C 66 2 dX8_comes_65 rfl rfl ?_
    refine grdE h (fun hb h => ?_)
    refine g_iald (f := (S.2 14)) C 67 9 rfl hb dX8_comes_66 rfl ?_
    refine g_aload_n C 68 1 dX8_comes_67 rfl rfl ?_
    refine g_get (v := .ref (u 16)) C 71 8 0 16 hin_8 rfl rfl (by decide) wf_X8_40 rfl dX8_comes_68 rfl ?_
    refine g_iload_n C 72 0 dX8_comes_71 rfl rfl ?_
    refine grdE h (fun hb h => ?_)
    refine g_iald (f := (S.2 16)) C 73 11 rfl hb dX8_comes_72 rfl ?_
    refine g_aload_n C 74 1 dX8_comes_73 rfl rfl ?_
    refine g_get (v := .ref (u 16)) C 77 8 0 16 hin_8 rfl rfl (by decide) wf_X8_40 rfl dX8_comes_74 rfl ?_
    refine g_iload_n C 78 0 dX8_comes_77 rfl rfl ?_
    refine g_iconst C 79 (1 : Int32) dX8_comes_78 rfl rfl ?_
    refine g_iadd C 80 dX8_comes_79 rfl ?_
    refine grdE h (fun hb h => ?_)
    refine g_iald (f := (S.2 16)) C 81 11 rfl hb dX8_comes_80 rfl ?_
    refine bnd h (fun x3 e3 h => ?_)
    refine g_callVs (w' := (cells8 L o u x3.2)) C 84 [] [.int x3.1] (ct_X8_comesOne L o u S ((S.2 14) (v1).toNatClampNeg) ((S.2 16) (((3 : Int32) * v1)).toNatClampNeg) ((S.2 16) ((((3 : Int32) * v1) + (1 : Int32))).toNatClampNeg) x3 e3) kX8_comesOne kvX8_comesOne wl_X8_123 8 0 rfl rfl rfl rfl rfl rfl rfl (Nat.le_of_ble_eq_true rfl) ⟨Nat.le_of_ble_eq_true rfl, Nat.le_of_ble_eq_true rfl⟩ ⟨Nat.zero_le _, Nat.zero_le _⟩ dX8_comes_81 rfl ?_
    refine grdE h (fun hb h => ?_)
    exact g_zret (st := []) C E dX8_comes_84 hb (by obtain rfl := Option.some.inj h; exact ⟨rfl, rfl⟩)
  have h := ifF c107 h
  by_cases c109 : ((S.2 14) (v1).toNatClampNeg) = (109 : Int32)
  · have h := ifT c109 h
    refine g_lookup C 103 (93) dX8_comes_10 (by decide +kernel) (by rw [c109]; rfl) (by decide) ?_
    refine g_aload_n C 104 1 dX8_comes_103 rfl rfl ?_
    refine g_aload_n C 105 1 dX8_comes_104 rfl rfl ?_
    refine g_get (v := .ref (u 16)) C 108 8 0 16 hin_8 rfl rfl (by decide) wf_X8_40 rfl dX8_comes_105 rfl ?_
    refine g_iload_n C 109 0 dX8_comes_108 rfl rfl ?_
    refine grdE h (fun hb h => ?_)
    refine g_iald (f := (S.2 16)) C 110 11 rfl hb dX8_comes_109 rfl ?_
    refine g_put (w' := (cells8 L o u (su S 11 ((S.2 16) (((3 : Int32) * v1)).toNatClampNeg)))) C 113 8 0 11 hin_8 tyX8 tyX8_ok nmX8 rfl rfl (by decide) wf_X8_56 rfl rfl rfl (Nat.le_of_ble_eq_true rfl) dX8_comes_110 rfl rfl ?_
    refine g_iconst C 114 (1 : Int32) dX8_comes_113 rfl rfl ?_
    exact g_zret (st := []) C E dX8_comes_114 rfl (by obtain rfl := Option.some.inj h; exact ⟨rfl, rfl⟩)
  have h := ifF c109 h
  by_cases c116 : ((S.2 14) (v1).toNatClampNeg) = (116 : Int32)
  · have h := ifT c116 h
    refine g_lookup C 60 (50) dX8_comes_10 (by decide +kernel) (by rw [c116]; rfl) (by decide) ?_
    refine g_aload_n C 61 1 dX8_comes_60 rfl rfl ?_
    refine g_aload_n C 62 1 dX8_comes_61 rfl rfl ?_
    refine g_get (v := .ref (u 14)) C 65 8 0 14 hin_8 rfl rfl (by decide) wf_X8_34 rfl dX8_comes_62 rfl ?_
    refine g_iload_n C 66 2 dX8_comes_65 rfl rfl ?_
    refine grdE h (fun hb h => ?_)
    refine g_iald (f := (S.2 14)) C 67 9 rfl hb dX8_comes_66 rfl ?_
    refine g_aload_n C 68 1 dX8_comes_67 rfl rfl ?_
    refine g_get (v := .ref (u 16)) C 71 8 0 16 hin_8 rfl rfl (by decide) wf_X8_40 rfl dX8_comes_68 rfl ?_
    refine g_iload_n C 72 0 dX8_comes_71 rfl rfl ?_
    refine grdE h (fun hb h => ?_)
    refine g_iald (f := (S.2 16)) C 73 11 rfl hb dX8_comes_72 rfl ?_
    refine g_aload_n C 74 1 dX8_comes_73 rfl rfl ?_
    refine g_get (v := .ref (u 16)) C 77 8 0 16 hin_8 rfl rfl (by decide) wf_X8_40 rfl dX8_comes_74 rfl ?_
    refine g_iload_n C 78 0 dX8_comes_77 rfl rfl ?_
    refine g_iconst C 79 (1 : Int32) dX8_comes_78 rfl rfl ?_
    refine g_iadd C 80 dX8_comes_79 rfl ?_
    refine grdE h (fun hb h => ?_)
    refine g_iald (f := (S.2 16)) C 81 11 rfl hb dX8_comes_80 rfl ?_
    refine bnd h (fun x4 e4 h => ?_)
    refine g_callVs (w' := (cells8 L o u x4.2)) C 84 [] [.int x4.1] (ct_X8_comesOne L o u S ((S.2 14) (v1).toNatClampNeg) ((S.2 16) (((3 : Int32) * v1)).toNatClampNeg) ((S.2 16) ((((3 : Int32) * v1) + (1 : Int32))).toNatClampNeg) x4 e4) kX8_comesOne kvX8_comesOne wl_X8_123 8 0 rfl rfl rfl rfl rfl rfl rfl (Nat.le_of_ble_eq_true rfl) ⟨Nat.le_of_ble_eq_true rfl, Nat.le_of_ble_eq_true rfl⟩ ⟨Nat.zero_le _, Nat.zero_le _⟩ dX8_comes_81 rfl ?_
    refine grdE h (fun hb h => ?_)
    exact g_zret (st := []) C E dX8_comes_84 hb (by obtain rfl := Option.some.inj h; exact ⟨rfl, rfl⟩)
  have h := ifF c116 h
  refine g_lookup C 133 (123) dX8_comes_10 (by decide +kernel) (by refine (lv_osw c100 (by decide +kernel)).trans ?_; refine (lv_osw c104 (by decide +kernel)).trans ?_; refine (lv_osw c107 (by decide +kernel)).trans ?_; refine (lv_osw c109 (by decide +kernel)).trans ?_; refine (lv_osw c116 (by decide +kernel)).trans ?_; rfl) (by decide) ?_
  refine g_aload_n C 134 1 dX8_comes_133 rfl rfl ?_
  refine g_aload_n C 135 1 dX8_comes_134 rfl rfl ?_
  refine g_get (v := .ref (u 14)) C 138 8 0 14 hin_8 rfl rfl (by decide) wf_X8_34 rfl dX8_comes_135 rfl ?_
  refine g_iload_n C 139 2 dX8_comes_138 rfl rfl ?_
  refine grdE h (fun hb h => ?_)
  refine g_iald (f := (S.2 14)) C 140 9 rfl hb dX8_comes_139 rfl ?_
  refine g_iload_n C 141 0 dX8_comes_140 rfl rfl ?_
  refine bnd h (fun x5 e5 h => ?_)
  refine g_callVs (w' := (cells8 L o u x5.2)) C 144 [] [.int x5.1] (ct_X8_comesNew L o u S ((S.2 14) (v1).toNatClampNeg) ((3 : Int32) * v1) x5 e5) kX8_comesNew kvX8_comesNew wl_X8_135 8 0 rfl rfl rfl rfl rfl rfl rfl (Nat.le_of_ble_eq_true rfl) ⟨Nat.le_of_ble_eq_true rfl, Nat.le_of_ble_eq_true rfl⟩ ⟨Nat.zero_le _, Nat.zero_le _⟩ dX8_comes_141 rfl ?_
  refine grdE h (fun hb h => ?_)
  exact g_zret (st := []) C E dX8_comes_144 hb (by obtain rfl := Option.some.inj h; exact ⟨rfl, rfl⟩)
set_option maxHeartbeats 4000000 in
set_option maxRecDepth 100000 in
theorem ct_X8_passes_1 (L : LL) (o : Nat) (u : Nat → Nat) (S : OS) (x : OS) (h : f_X8_passes_1 S = some x) : Ct L yX8_passes cX8_passes 3 none (rmk 0 0 0 0) 0 0 [.ref o, .ref (u 1)] (cells8 L o u S) (Pv none (cells8 L o u x)) := by
  refine g_enter (lv := [(0, .ref o), (1, .ref (u 1))]) kX8_passes rfl rfl (Nat.le_of_ble_eq_true rfl) (fun Γ C E hNL => ?_)
  have J_2 : ∀ (n : Nat)  (v2 : Int32) (S : OS), Lp2 (b_X8_passes_1_2   ) n v2 S = some x → G L Γ 0 0 (cells8 L o u S) 2 [(0, .ref o), (1, .ref (u 1)), (2, .int v2)] [] := by
    intro n 
    refine lp_ok2 (fun v2 S => G L Γ 0 0 (cells8 L o u S) 2 [(0, .ref o), (1, .ref (u 1)), (2, .int v2)] []) (fun k_2 hk_2 => ?_) n
    have J_42 : ∀ (v2 : Int32) (S : OS), j_X8_passes_1_42  k_2 v2 S = some x → G L Γ 0 0 (cells8 L o u S) 42 [(0, .ref o), (1, .ref (u 1)), (2, .int v2)] [] := by
      intro v2 S h
      unfold j_X8_passes_1_42 at h
      refine g_aload_n C 43 0 dX8_passes_42 rfl rfl ?_
      refine g_dup C 44 dX8_passes_43 rfl rfl ?_
      refine g_get (v := .int (S.1 23)) C 47 8 0 23 hin_8 rfl rfl (by decide) wf_X8_156 rfl dX8_passes_44 rfl ?_
      refine g_iconst C 48 (1 : Int32) dX8_passes_47 rfl rfl ?_
      refine g_iadd C 49 dX8_passes_48 rfl ?_
      refine g_put (w' := (cells8 L o u (su S 23 ((S.1 23) + (1 : Int32))))) C 52 8 0 23 hin_8 tyX8 tyX8_ok nmX8 rfl rfl (by decide) wf_X8_156 rfl rfl rfl (Nat.le_of_ble_eq_true rfl) dX8_passes_49 rfl rfl ?_
      refine g_iinc C 55 (1 : Int32) 2 [(2, .int (v2 + (1 : Int32))), (0, .ref o), (1, .ref (u 1))] dX8_passes_52 rfl rfl 3 hNL (by decide) rfl rfl ?_
      refine g_goto C 2 dX8_passes_55 (by decide) ?_
      refine g_lv (lv' := [(0, .ref o), (1, .ref (u 1)), (2, .int (v2 + (1 : Int32)))]) [1, 2, 0] rfl ?_
      exact hk_2 _ _ h
    intro v2 S h
    unfold b_X8_passes_1_2 at h
    refine g_iload_n C 3 2 dX8_passes_2 rfl rfl ?_
    refine g_aload_n C 4 1 dX8_passes_3 rfl rfl ?_
    refine g_alen (f := (S.2 1)) C 5 2 rfl dX8_passes_4 rfl ?_
    refine g_icmp_ge C 58 8 dX8_passes_5 (by decide) rfl (fun c => ?_) (fun c => ?_)
    · have h := ifT c h
      exact g_vret (st := []) C E dX8_passes_58 (by obtain rfl := Option.some.inj h; exact ⟨rfl, rfl⟩)
    · have h := ifF c h
      refine g_aload_n C 9 0 dX8_passes_8 rfl rfl ?_
      refine g_get (v := .int (S.1 22)) C 12 8 0 22 hin_8 rfl rfl (by decide) wf_X8_152 rfl dX8_passes_9 rfl ?_
      refine g_if_eq C 30 15 dX8_passes_12 (by decide) rfl (fun c => ?_) (fun c => ?_)
      · have h := ifT c h
        refine g_aload_n C 31 1 dX8_passes_30 rfl rfl ?_
        refine g_iload_n C 32 2 dX8_passes_31 rfl rfl ?_
        refine g_aload_n C 33 0 dX8_passes_32 rfl rfl ?_
        refine g_get (v := .ref (u 20)) C 36 8 0 20 hin_8 rfl rfl (by decide) wf_X8_43 rfl dX8_passes_33 rfl ?_
        refine g_aload_n C 37 0 dX8_passes_36 rfl rfl ?_
        refine g_get (v := .int (S.1 23)) C 40 8 0 23 hin_8 rfl rfl (by decide) wf_X8_156 rfl dX8_passes_37 rfl ?_
        refine grdE h (fun hb h => ?_)
        refine g_iald (f := (S.2 20)) C 41 12 rfl hb dX8_passes_40 rfl ?_
        refine grdE h (fun hb h => ?_)
        refine g_iast (f := (S.2 1)) (w' := (cells8 L o u (sa S 1 (upd (S.2 1) (v2).toNatClampNeg ((S.2 20) ((S.1 23)).toNatClampNeg))))) C 42 2 rfl hb dX8_passes_41 rfl rfl ?_
        exact J_42 _ _ h
      · have h := ifF c h
        refine g_aload_n C 16 0 dX8_passes_15 rfl rfl ?_
        refine g_get (v := .ref (u 20)) C 19 8 0 20 hin_8 rfl rfl (by decide) wf_X8_43 rfl dX8_passes_16 rfl ?_
        refine g_aload_n C 20 0 dX8_passes_19 rfl rfl ?_
        refine g_get (v := .int (S.1 23)) C 23 8 0 23 hin_8 rfl rfl (by decide) wf_X8_156 rfl dX8_passes_20 rfl ?_
        refine g_aload_n C 24 1 dX8_passes_23 rfl rfl ?_
        refine g_iload_n C 25 2 dX8_passes_24 rfl rfl ?_
        refine grdE h (fun hb h => ?_)
        refine g_iald (f := (S.2 1)) C 26 2 rfl hb dX8_passes_25 rfl ?_
        refine grdE h (fun hb h => ?_)
        refine g_iast (f := (S.2 20)) (w' := (cells8 L o u (sa S 20 (upd (S.2 20) ((S.1 23)).toNatClampNeg ((S.2 1) (v2).toNatClampNeg))))) C 27 12 rfl hb dX8_passes_26 rfl rfl ?_
        refine g_goto C 42 dX8_passes_27 (by decide) ?_
        exact J_42 _ _ h
  unfold f_X8_passes_1 at h
  refine g_iconst C 1 (0 : Int32) dX8_passes_0 rfl rfl ?_
  refine g_istore_n C 2 2 [(2, .int (0 : Int32)), (0, .ref o), (1, .ref (u 1))] dX8_passes_1 rfl rfl 3 hNL (by decide) rfl ?_
  refine g_lv (lv' := [(0, .ref o), (1, .ref (u 1)), (2, .int (0 : Int32))]) [1, 2, 0] rfl ?_
  exact J_2 _ _ _ h
set_option maxHeartbeats 4000000 in
set_option maxRecDepth 100000 in
theorem ct_X8_passes_2 (L : LL) (o : Nat) (u : Nat → Nat) (S : OS) (x : OS) (h : f_X8_passes_2 S = some x) : Ct L yX8_passes cX8_passes 3 none (rmk 0 0 0 0) 0 0 [.ref o, .ref (u 2)] (cells8 L o u S) (Pv none (cells8 L o u x)) := by
  refine g_enter (lv := [(0, .ref o), (1, .ref (u 2))]) kX8_passes rfl rfl (Nat.le_of_ble_eq_true rfl) (fun Γ C E hNL => ?_)
  have J_2 : ∀ (n : Nat)  (v2 : Int32) (S : OS), Lp2 (b_X8_passes_2_2   ) n v2 S = some x → G L Γ 0 0 (cells8 L o u S) 2 [(0, .ref o), (1, .ref (u 2)), (2, .int v2)] [] := by
    intro n 
    refine lp_ok2 (fun v2 S => G L Γ 0 0 (cells8 L o u S) 2 [(0, .ref o), (1, .ref (u 2)), (2, .int v2)] []) (fun k_2 hk_2 => ?_) n
    have J_42 : ∀ (v2 : Int32) (S : OS), j_X8_passes_2_42  k_2 v2 S = some x → G L Γ 0 0 (cells8 L o u S) 42 [(0, .ref o), (1, .ref (u 2)), (2, .int v2)] [] := by
      intro v2 S h
      unfold j_X8_passes_2_42 at h
      refine g_aload_n C 43 0 dX8_passes_42 rfl rfl ?_
      refine g_dup C 44 dX8_passes_43 rfl rfl ?_
      refine g_get (v := .int (S.1 23)) C 47 8 0 23 hin_8 rfl rfl (by decide) wf_X8_156 rfl dX8_passes_44 rfl ?_
      refine g_iconst C 48 (1 : Int32) dX8_passes_47 rfl rfl ?_
      refine g_iadd C 49 dX8_passes_48 rfl ?_
      refine g_put (w' := (cells8 L o u (su S 23 ((S.1 23) + (1 : Int32))))) C 52 8 0 23 hin_8 tyX8 tyX8_ok nmX8 rfl rfl (by decide) wf_X8_156 rfl rfl rfl (Nat.le_of_ble_eq_true rfl) dX8_passes_49 rfl rfl ?_
      refine g_iinc C 55 (1 : Int32) 2 [(2, .int (v2 + (1 : Int32))), (0, .ref o), (1, .ref (u 2))] dX8_passes_52 rfl rfl 3 hNL (by decide) rfl rfl ?_
      refine g_goto C 2 dX8_passes_55 (by decide) ?_
      refine g_lv (lv' := [(0, .ref o), (1, .ref (u 2)), (2, .int (v2 + (1 : Int32)))]) [1, 2, 0] rfl ?_
      exact hk_2 _ _ h
    intro v2 S h
    unfold b_X8_passes_2_2 at h
    refine g_iload_n C 3 2 dX8_passes_2 rfl rfl ?_
    refine g_aload_n C 4 1 dX8_passes_3 rfl rfl ?_
    refine g_alen (f := (S.2 2)) C 5 3 rfl dX8_passes_4 rfl ?_
    refine g_icmp_ge C 58 8 dX8_passes_5 (by decide) rfl (fun c => ?_) (fun c => ?_)
    · have h := ifT c h
      exact g_vret (st := []) C E dX8_passes_58 (by obtain rfl := Option.some.inj h; exact ⟨rfl, rfl⟩)
    · have h := ifF c h
      refine g_aload_n C 9 0 dX8_passes_8 rfl rfl ?_
      refine g_get (v := .int (S.1 22)) C 12 8 0 22 hin_8 rfl rfl (by decide) wf_X8_152 rfl dX8_passes_9 rfl ?_
      refine g_if_eq C 30 15 dX8_passes_12 (by decide) rfl (fun c => ?_) (fun c => ?_)
      · have h := ifT c h
        refine g_aload_n C 31 1 dX8_passes_30 rfl rfl ?_
        refine g_iload_n C 32 2 dX8_passes_31 rfl rfl ?_
        refine g_aload_n C 33 0 dX8_passes_32 rfl rfl ?_
        refine g_get (v := .ref (u 20)) C 36 8 0 20 hin_8 rfl rfl (by decide) wf_X8_43 rfl dX8_passes_33 rfl ?_
        refine g_aload_n C 37 0 dX8_passes_36 rfl rfl ?_
        refine g_get (v := .int (S.1 23)) C 40 8 0 23 hin_8 rfl rfl (by decide) wf_X8_156 rfl dX8_passes_37 rfl ?_
        refine grdE h (fun hb h => ?_)
        refine g_iald (f := (S.2 20)) C 41 12 rfl hb dX8_passes_40 rfl ?_
        refine grdE h (fun hb h => ?_)
        refine g_iast (f := (S.2 2)) (w' := (cells8 L o u (sa S 2 (upd (S.2 2) (v2).toNatClampNeg ((S.2 20) ((S.1 23)).toNatClampNeg))))) C 42 3 rfl hb dX8_passes_41 rfl rfl ?_
        exact J_42 _ _ h
      · have h := ifF c h
        refine g_aload_n C 16 0 dX8_passes_15 rfl rfl ?_
        refine g_get (v := .ref (u 20)) C 19 8 0 20 hin_8 rfl rfl (by decide) wf_X8_43 rfl dX8_passes_16 rfl ?_
        refine g_aload_n C 20 0 dX8_passes_19 rfl rfl ?_
        refine g_get (v := .int (S.1 23)) C 23 8 0 23 hin_8 rfl rfl (by decide) wf_X8_156 rfl dX8_passes_20 rfl ?_
        refine g_aload_n C 24 1 dX8_passes_23 rfl rfl ?_
        refine g_iload_n C 25 2 dX8_passes_24 rfl rfl ?_
        refine grdE h (fun hb h => ?_)
        refine g_iald (f := (S.2 2)) C 26 3 rfl hb dX8_passes_25 rfl ?_
        refine grdE h (fun hb h => ?_)
        refine g_iast (f := (S.2 20)) (w' := (cells8 L o u (sa S 20 (upd (S.2 20) ((S.1 23)).toNatClampNeg ((S.2 2) (v2).toNatClampNeg))))) C 27 12 rfl hb dX8_passes_26 rfl rfl ?_
        refine g_goto C 42 dX8_passes_27 (by decide) ?_
        exact J_42 _ _ h
  unfold f_X8_passes_2 at h
  refine g_iconst C 1 (0 : Int32) dX8_passes_0 rfl rfl ?_
  refine g_istore_n C 2 2 [(2, .int (0 : Int32)), (0, .ref o), (1, .ref (u 2))] dX8_passes_1 rfl rfl 3 hNL (by decide) rfl ?_
  refine g_lv (lv' := [(0, .ref o), (1, .ref (u 2)), (2, .int (0 : Int32))]) [1, 2, 0] rfl ?_
  exact J_2 _ _ _ h
set_option maxHeartbeats 4000000 in
set_option maxRecDepth 100000 in
theorem ct_X8_passes_3 (L : LL) (o : Nat) (u : Nat → Nat) (S : OS) (x : OS) (h : f_X8_passes_3 S = some x) : Ct L yX8_passes cX8_passes 3 none (rmk 0 0 0 0) 0 0 [.ref o, .ref (u 3)] (cells8 L o u S) (Pv none (cells8 L o u x)) := by
  refine g_enter (lv := [(0, .ref o), (1, .ref (u 3))]) kX8_passes rfl rfl (Nat.le_of_ble_eq_true rfl) (fun Γ C E hNL => ?_)
  have J_2 : ∀ (n : Nat)  (v2 : Int32) (S : OS), Lp2 (b_X8_passes_3_2   ) n v2 S = some x → G L Γ 0 0 (cells8 L o u S) 2 [(0, .ref o), (1, .ref (u 3)), (2, .int v2)] [] := by
    intro n 
    refine lp_ok2 (fun v2 S => G L Γ 0 0 (cells8 L o u S) 2 [(0, .ref o), (1, .ref (u 3)), (2, .int v2)] []) (fun k_2 hk_2 => ?_) n
    have J_42 : ∀ (v2 : Int32) (S : OS), j_X8_passes_3_42  k_2 v2 S = some x → G L Γ 0 0 (cells8 L o u S) 42 [(0, .ref o), (1, .ref (u 3)), (2, .int v2)] [] := by
      intro v2 S h
      unfold j_X8_passes_3_42 at h
      refine g_aload_n C 43 0 dX8_passes_42 rfl rfl ?_
      refine g_dup C 44 dX8_passes_43 rfl rfl ?_
      refine g_get (v := .int (S.1 23)) C 47 8 0 23 hin_8 rfl rfl (by decide) wf_X8_156 rfl dX8_passes_44 rfl ?_
      refine g_iconst C 48 (1 : Int32) dX8_passes_47 rfl rfl ?_
      refine g_iadd C 49 dX8_passes_48 rfl ?_
      refine g_put (w' := (cells8 L o u (su S 23 ((S.1 23) + (1 : Int32))))) C 52 8 0 23 hin_8 tyX8 tyX8_ok nmX8 rfl rfl (by decide) wf_X8_156 rfl rfl rfl (Nat.le_of_ble_eq_true rfl) dX8_passes_49 rfl rfl ?_
      refine g_iinc C 55 (1 : Int32) 2 [(2, .int (v2 + (1 : Int32))), (0, .ref o), (1, .ref (u 3))] dX8_passes_52 rfl rfl 3 hNL (by decide) rfl rfl ?_
      refine g_goto C 2 dX8_passes_55 (by decide) ?_
      refine g_lv (lv' := [(0, .ref o), (1, .ref (u 3)), (2, .int (v2 + (1 : Int32)))]) [1, 2, 0] rfl ?_
      exact hk_2 _ _ h
    intro v2 S h
    unfold b_X8_passes_3_2 at h
    refine g_iload_n C 3 2 dX8_passes_2 rfl rfl ?_
    refine g_aload_n C 4 1 dX8_passes_3 rfl rfl ?_
    refine g_alen (f := (S.2 3)) C 5 4 rfl dX8_passes_4 rfl ?_
    refine g_icmp_ge C 58 8 dX8_passes_5 (by decide) rfl (fun c => ?_) (fun c => ?_)
    · have h := ifT c h
      exact g_vret (st := []) C E dX8_passes_58 (by obtain rfl := Option.some.inj h; exact ⟨rfl, rfl⟩)
    · have h := ifF c h
      refine g_aload_n C 9 0 dX8_passes_8 rfl rfl ?_
      refine g_get (v := .int (S.1 22)) C 12 8 0 22 hin_8 rfl rfl (by decide) wf_X8_152 rfl dX8_passes_9 rfl ?_
      refine g_if_eq C 30 15 dX8_passes_12 (by decide) rfl (fun c => ?_) (fun c => ?_)
      · have h := ifT c h
        refine g_aload_n C 31 1 dX8_passes_30 rfl rfl ?_
        refine g_iload_n C 32 2 dX8_passes_31 rfl rfl ?_
        refine g_aload_n C 33 0 dX8_passes_32 rfl rfl ?_
        refine g_get (v := .ref (u 20)) C 36 8 0 20 hin_8 rfl rfl (by decide) wf_X8_43 rfl dX8_passes_33 rfl ?_
        refine g_aload_n C 37 0 dX8_passes_36 rfl rfl ?_
        refine g_get (v := .int (S.1 23)) C 40 8 0 23 hin_8 rfl rfl (by decide) wf_X8_156 rfl dX8_passes_37 rfl ?_
        refine grdE h (fun hb h => ?_)
        refine g_iald (f := (S.2 20)) C 41 12 rfl hb dX8_passes_40 rfl ?_
        refine grdE h (fun hb h => ?_)
        refine g_iast (f := (S.2 3)) (w' := (cells8 L o u (sa S 3 (upd (S.2 3) (v2).toNatClampNeg ((S.2 20) ((S.1 23)).toNatClampNeg))))) C 42 4 rfl hb dX8_passes_41 rfl rfl ?_
        exact J_42 _ _ h
      · have h := ifF c h
        refine g_aload_n C 16 0 dX8_passes_15 rfl rfl ?_
        refine g_get (v := .ref (u 20)) C 19 8 0 20 hin_8 rfl rfl (by decide) wf_X8_43 rfl dX8_passes_16 rfl ?_
        refine g_aload_n C 20 0 dX8_passes_19 rfl rfl ?_
        refine g_get (v := .int (S.1 23)) C 23 8 0 23 hin_8 rfl rfl (by decide) wf_X8_156 rfl dX8_passes_20 rfl ?_
        refine g_aload_n C 24 1 dX8_passes_23 rfl rfl ?_
        refine g_iload_n C 25 2 dX8_passes_24 rfl rfl ?_
        refine grdE h (fun hb h => ?_)
        refine g_iald (f := (S.2 3)) C 26 4 rfl hb dX8_passes_25 rfl ?_
        refine grdE h (fun hb h => ?_)
        refine g_iast (f := (S.2 20)) (w' := (cells8 L o u (sa S 20 (upd (S.2 20) ((S.1 23)).toNatClampNeg ((S.2 3) (v2).toNatClampNeg))))) C 27 12 rfl hb dX8_passes_26 rfl rfl ?_
        refine g_goto C 42 dX8_passes_27 (by decide) ?_
        exact J_42 _ _ h
  unfold f_X8_passes_3 at h
  refine g_iconst C 1 (0 : Int32) dX8_passes_0 rfl rfl ?_
  refine g_istore_n C 2 2 [(2, .int (0 : Int32)), (0, .ref o), (1, .ref (u 3))] dX8_passes_1 rfl rfl 3 hNL (by decide) rfl ?_
  refine g_lv (lv' := [(0, .ref o), (1, .ref (u 3)), (2, .int (0 : Int32))]) [1, 2, 0] rfl ?_
  exact J_2 _ _ _ h
set_option maxHeartbeats 4000000 in
set_option maxRecDepth 100000 in
theorem ct_X8_passes_4 (L : LL) (o : Nat) (u : Nat → Nat) (S : OS) (x : OS) (h : f_X8_passes_4 S = some x) : Ct L yX8_passes cX8_passes 3 none (rmk 0 0 0 0) 0 0 [.ref o, .ref (u 4)] (cells8 L o u S) (Pv none (cells8 L o u x)) := by
  refine g_enter (lv := [(0, .ref o), (1, .ref (u 4))]) kX8_passes rfl rfl (Nat.le_of_ble_eq_true rfl) (fun Γ C E hNL => ?_)
  have J_2 : ∀ (n : Nat)  (v2 : Int32) (S : OS), Lp2 (b_X8_passes_4_2   ) n v2 S = some x → G L Γ 0 0 (cells8 L o u S) 2 [(0, .ref o), (1, .ref (u 4)), (2, .int v2)] [] := by
    intro n 
    refine lp_ok2 (fun v2 S => G L Γ 0 0 (cells8 L o u S) 2 [(0, .ref o), (1, .ref (u 4)), (2, .int v2)] []) (fun k_2 hk_2 => ?_) n
    have J_42 : ∀ (v2 : Int32) (S : OS), j_X8_passes_4_42  k_2 v2 S = some x → G L Γ 0 0 (cells8 L o u S) 42 [(0, .ref o), (1, .ref (u 4)), (2, .int v2)] [] := by
      intro v2 S h
      unfold j_X8_passes_4_42 at h
      refine g_aload_n C 43 0 dX8_passes_42 rfl rfl ?_
      refine g_dup C 44 dX8_passes_43 rfl rfl ?_
      refine g_get (v := .int (S.1 23)) C 47 8 0 23 hin_8 rfl rfl (by decide) wf_X8_156 rfl dX8_passes_44 rfl ?_
      refine g_iconst C 48 (1 : Int32) dX8_passes_47 rfl rfl ?_
      refine g_iadd C 49 dX8_passes_48 rfl ?_
      refine g_put (w' := (cells8 L o u (su S 23 ((S.1 23) + (1 : Int32))))) C 52 8 0 23 hin_8 tyX8 tyX8_ok nmX8 rfl rfl (by decide) wf_X8_156 rfl rfl rfl (Nat.le_of_ble_eq_true rfl) dX8_passes_49 rfl rfl ?_
      refine g_iinc C 55 (1 : Int32) 2 [(2, .int (v2 + (1 : Int32))), (0, .ref o), (1, .ref (u 4))] dX8_passes_52 rfl rfl 3 hNL (by decide) rfl rfl ?_
      refine g_goto C 2 dX8_passes_55 (by decide) ?_
      refine g_lv (lv' := [(0, .ref o), (1, .ref (u 4)), (2, .int (v2 + (1 : Int32)))]) [1, 2, 0] rfl ?_
      exact hk_2 _ _ h
    intro v2 S h
    unfold b_X8_passes_4_2 at h
    refine g_iload_n C 3 2 dX8_passes_2 rfl rfl ?_
    refine g_aload_n C 4 1 dX8_passes_3 rfl rfl ?_
    refine g_alen (f := (S.2 4)) C 5 5 rfl dX8_passes_4 rfl ?_
    refine g_icmp_ge C 58 8 dX8_passes_5 (by decide) rfl (fun c => ?_) (fun c => ?_)
    · have h := ifT c h
      exact g_vret (st := []) C E dX8_passes_58 (by obtain rfl := Option.some.inj h; exact ⟨rfl, rfl⟩)
    · have h := ifF c h
      refine g_aload_n C 9 0 dX8_passes_8 rfl rfl ?_
      refine g_get (v := .int (S.1 22)) C 12 8 0 22 hin_8 rfl rfl (by decide) wf_X8_152 rfl dX8_passes_9 rfl ?_
      refine g_if_eq C 30 15 dX8_passes_12 (by decide) rfl (fun c => ?_) (fun c => ?_)
      · have h := ifT c h
        refine g_aload_n C 31 1 dX8_passes_30 rfl rfl ?_
        refine g_iload_n C 32 2 dX8_passes_31 rfl rfl ?_
        refine g_aload_n C 33 0 dX8_passes_32 rfl rfl ?_
        refine g_get (v := .ref (u 20)) C 36 8 0 20 hin_8 rfl rfl (by decide) wf_X8_43 rfl dX8_passes_33 rfl ?_
        refine g_aload_n C 37 0 dX8_passes_36 rfl rfl ?_
        refine g_get (v := .int (S.1 23)) C 40 8 0 23 hin_8 rfl rfl (by decide) wf_X8_156 rfl dX8_passes_37 rfl ?_
        refine grdE h (fun hb h => ?_)
        refine g_iald (f := (S.2 20)) C 41 12 rfl hb dX8_passes_40 rfl ?_
        refine grdE h (fun hb h => ?_)
        refine g_iast (f := (S.2 4)) (w' := (cells8 L o u (sa S 4 (upd (S.2 4) (v2).toNatClampNeg ((S.2 20) ((S.1 23)).toNatClampNeg))))) C 42 5 rfl hb dX8_passes_41 rfl rfl ?_
        exact J_42 _ _ h
      · have h := ifF c h
        refine g_aload_n C 16 0 dX8_passes_15 rfl rfl ?_
        refine g_get (v := .ref (u 20)) C 19 8 0 20 hin_8 rfl rfl (by decide) wf_X8_43 rfl dX8_passes_16 rfl ?_
        refine g_aload_n C 20 0 dX8_passes_19 rfl rfl ?_
        refine g_get (v := .int (S.1 23)) C 23 8 0 23 hin_8 rfl rfl (by decide) wf_X8_156 rfl dX8_passes_20 rfl ?_
        refine g_aload_n C 24 1 dX8_passes_23 rfl rfl ?_
        refine g_iload_n C 25 2 dX8_passes_24 rfl rfl ?_
        refine grdE h (fun hb h => ?_)
        refine g_iald (f := (S.2 4)) C 26 5 rfl hb dX8_passes_25 rfl ?_
        refine grdE h (fun hb h => ?_)
        refine g_iast (f := (S.2 20)) (w' := (cells8 L o u (sa S 20 (upd (S.2 20) ((S.1 23)).toNatClampNeg ((S.2 4) (v2).toNatClampNeg))))) C 27 12 rfl hb dX8_passes_26 rfl rfl ?_
        refine g_goto C 42 dX8_passes_27 (by decide) ?_
        exact J_42 _ _ h
  unfold f_X8_passes_4 at h
  refine g_iconst C 1 (0 : Int32) dX8_passes_0 rfl rfl ?_
  refine g_istore_n C 2 2 [(2, .int (0 : Int32)), (0, .ref o), (1, .ref (u 4))] dX8_passes_1 rfl rfl 3 hNL (by decide) rfl ?_
  refine g_lv (lv' := [(0, .ref o), (1, .ref (u 4)), (2, .int (0 : Int32))]) [1, 2, 0] rfl ?_
  exact J_2 _ _ _ h
set_option maxHeartbeats 4000000 in
set_option maxRecDepth 100000 in
theorem ct_X8_passes_5 (L : LL) (o : Nat) (u : Nat → Nat) (S : OS) (x : OS) (h : f_X8_passes_5 S = some x) : Ct L yX8_passes cX8_passes 3 none (rmk 0 0 0 0) 0 0 [.ref o, .ref (u 5)] (cells8 L o u S) (Pv none (cells8 L o u x)) := by
  refine g_enter (lv := [(0, .ref o), (1, .ref (u 5))]) kX8_passes rfl rfl (Nat.le_of_ble_eq_true rfl) (fun Γ C E hNL => ?_)
  have J_2 : ∀ (n : Nat)  (v2 : Int32) (S : OS), Lp2 (b_X8_passes_5_2   ) n v2 S = some x → G L Γ 0 0 (cells8 L o u S) 2 [(0, .ref o), (1, .ref (u 5)), (2, .int v2)] [] := by
    intro n 
    refine lp_ok2 (fun v2 S => G L Γ 0 0 (cells8 L o u S) 2 [(0, .ref o), (1, .ref (u 5)), (2, .int v2)] []) (fun k_2 hk_2 => ?_) n
    have J_42 : ∀ (v2 : Int32) (S : OS), j_X8_passes_5_42  k_2 v2 S = some x → G L Γ 0 0 (cells8 L o u S) 42 [(0, .ref o), (1, .ref (u 5)), (2, .int v2)] [] := by
      intro v2 S h
      unfold j_X8_passes_5_42 at h
      refine g_aload_n C 43 0 dX8_passes_42 rfl rfl ?_
      refine g_dup C 44 dX8_passes_43 rfl rfl ?_
      refine g_get (v := .int (S.1 23)) C 47 8 0 23 hin_8 rfl rfl (by decide) wf_X8_156 rfl dX8_passes_44 rfl ?_
      refine g_iconst C 48 (1 : Int32) dX8_passes_47 rfl rfl ?_
      refine g_iadd C 49 dX8_passes_48 rfl ?_
      refine g_put (w' := (cells8 L o u (su S 23 ((S.1 23) + (1 : Int32))))) C 52 8 0 23 hin_8 tyX8 tyX8_ok nmX8 rfl rfl (by decide) wf_X8_156 rfl rfl rfl (Nat.le_of_ble_eq_true rfl) dX8_passes_49 rfl rfl ?_
      refine g_iinc C 55 (1 : Int32) 2 [(2, .int (v2 + (1 : Int32))), (0, .ref o), (1, .ref (u 5))] dX8_passes_52 rfl rfl 3 hNL (by decide) rfl rfl ?_
      refine g_goto C 2 dX8_passes_55 (by decide) ?_
      refine g_lv (lv' := [(0, .ref o), (1, .ref (u 5)), (2, .int (v2 + (1 : Int32)))]) [1, 2, 0] rfl ?_
      exact hk_2 _ _ h
    intro v2 S h
    unfold b_X8_passes_5_2 at h
    refine g_iload_n C 3 2 dX8_passes_2 rfl rfl ?_
    refine g_aload_n C 4 1 dX8_passes_3 rfl rfl ?_
    refine g_alen (f := (S.2 5)) C 5 6 rfl dX8_passes_4 rfl ?_
    refine g_icmp_ge C 58 8 dX8_passes_5 (by decide) rfl (fun c => ?_) (fun c => ?_)
    · have h := ifT c h
      exact g_vret (st := []) C E dX8_passes_58 (by obtain rfl := Option.some.inj h; exact ⟨rfl, rfl⟩)
    · have h := ifF c h
      refine g_aload_n C 9 0 dX8_passes_8 rfl rfl ?_
      refine g_get (v := .int (S.1 22)) C 12 8 0 22 hin_8 rfl rfl (by decide) wf_X8_152 rfl dX8_passes_9 rfl ?_
      refine g_if_eq C 30 15 dX8_passes_12 (by decide) rfl (fun c => ?_) (fun c => ?_)
      · have h := ifT c h
        refine g_aload_n C 31 1 dX8_passes_30 rfl rfl ?_
        refine g_iload_n C 32 2 dX8_passes_31 rfl rfl ?_
        refine g_aload_n C 33 0 dX8_passes_32 rfl rfl ?_
        refine g_get (v := .ref (u 20)) C 36 8 0 20 hin_8 rfl rfl (by decide) wf_X8_43 rfl dX8_passes_33 rfl ?_
        refine g_aload_n C 37 0 dX8_passes_36 rfl rfl ?_
        refine g_get (v := .int (S.1 23)) C 40 8 0 23 hin_8 rfl rfl (by decide) wf_X8_156 rfl dX8_passes_37 rfl ?_
        refine grdE h (fun hb h => ?_)
        refine g_iald (f := (S.2 20)) C 41 12 rfl hb dX8_passes_40 rfl ?_
        refine grdE h (fun hb h => ?_)
        refine g_iast (f := (S.2 5)) (w' := (cells8 L o u (sa S 5 (upd (S.2 5) (v2).toNatClampNeg ((S.2 20) ((S.1 23)).toNatClampNeg))))) C 42 6 rfl hb dX8_passes_41 rfl rfl ?_
        exact J_42 _ _ h
      · have h := ifF c h
        refine g_aload_n C 16 0 dX8_passes_15 rfl rfl ?_
        refine g_get (v := .ref (u 20)) C 19 8 0 20 hin_8 rfl rfl (by decide) wf_X8_43 rfl dX8_passes_16 rfl ?_
        refine g_aload_n C 20 0 dX8_passes_19 rfl rfl ?_
        refine g_get (v := .int (S.1 23)) C 23 8 0 23 hin_8 rfl rfl (by decide) wf_X8_156 rfl dX8_passes_20 rfl ?_
        refine g_aload_n C 24 1 dX8_passes_23 rfl rfl ?_
        refine g_iload_n C 25 2 dX8_passes_24 rfl rfl ?_
        refine grdE h (fun hb h => ?_)
        refine g_iald (f := (S.2 5)) C 26 6 rfl hb dX8_passes_25 rfl ?_
        refine grdE h (fun hb h => ?_)
        refine g_iast (f := (S.2 20)) (w' := (cells8 L o u (sa S 20 (upd (S.2 20) ((S.1 23)).toNatClampNeg ((S.2 5) (v2).toNatClampNeg))))) C 27 12 rfl hb dX8_passes_26 rfl rfl ?_
        refine g_goto C 42 dX8_passes_27 (by decide) ?_
        exact J_42 _ _ h
  unfold f_X8_passes_5 at h
  refine g_iconst C 1 (0 : Int32) dX8_passes_0 rfl rfl ?_
  refine g_istore_n C 2 2 [(2, .int (0 : Int32)), (0, .ref o), (1, .ref (u 5))] dX8_passes_1 rfl rfl 3 hNL (by decide) rfl ?_
  refine g_lv (lv' := [(0, .ref o), (1, .ref (u 5)), (2, .int (0 : Int32))]) [1, 2, 0] rfl ?_
  exact J_2 _ _ _ h
set_option maxHeartbeats 4000000 in
set_option maxRecDepth 100000 in
theorem ct_X8_passes_6 (L : LL) (o : Nat) (u : Nat → Nat) (S : OS) (x : OS) (h : f_X8_passes_6 S = some x) : Ct L yX8_passes cX8_passes 3 none (rmk 0 0 0 0) 0 0 [.ref o, .ref (u 6)] (cells8 L o u S) (Pv none (cells8 L o u x)) := by
  refine g_enter (lv := [(0, .ref o), (1, .ref (u 6))]) kX8_passes rfl rfl (Nat.le_of_ble_eq_true rfl) (fun Γ C E hNL => ?_)
  have J_2 : ∀ (n : Nat)  (v2 : Int32) (S : OS), Lp2 (b_X8_passes_6_2   ) n v2 S = some x → G L Γ 0 0 (cells8 L o u S) 2 [(0, .ref o), (1, .ref (u 6)), (2, .int v2)] [] := by
    intro n 
    refine lp_ok2 (fun v2 S => G L Γ 0 0 (cells8 L o u S) 2 [(0, .ref o), (1, .ref (u 6)), (2, .int v2)] []) (fun k_2 hk_2 => ?_) n
    have J_42 : ∀ (v2 : Int32) (S : OS), j_X8_passes_6_42  k_2 v2 S = some x → G L Γ 0 0 (cells8 L o u S) 42 [(0, .ref o), (1, .ref (u 6)), (2, .int v2)] [] := by
      intro v2 S h
      unfold j_X8_passes_6_42 at h
      refine g_aload_n C 43 0 dX8_passes_42 rfl rfl ?_
      refine g_dup C 44 dX8_passes_43 rfl rfl ?_
      refine g_get (v := .int (S.1 23)) C 47 8 0 23 hin_8 rfl rfl (by decide) wf_X8_156 rfl dX8_passes_44 rfl ?_
      refine g_iconst C 48 (1 : Int32) dX8_passes_47 rfl rfl ?_
      refine g_iadd C 49 dX8_passes_48 rfl ?_
      refine g_put (w' := (cells8 L o u (su S 23 ((S.1 23) + (1 : Int32))))) C 52 8 0 23 hin_8 tyX8 tyX8_ok nmX8 rfl rfl (by decide) wf_X8_156 rfl rfl rfl (Nat.le_of_ble_eq_true rfl) dX8_passes_49 rfl rfl ?_
      refine g_iinc C 55 (1 : Int32) 2 [(2, .int (v2 + (1 : Int32))), (0, .ref o), (1, .ref (u 6))] dX8_passes_52 rfl rfl 3 hNL (by decide) rfl rfl ?_
      refine g_goto C 2 dX8_passes_55 (by decide) ?_
      refine g_lv (lv' := [(0, .ref o), (1, .ref (u 6)), (2, .int (v2 + (1 : Int32)))]) [1, 2, 0] rfl ?_
      exact hk_2 _ _ h
    intro v2 S h
    unfold b_X8_passes_6_2 at h
    refine g_iload_n C 3 2 dX8_passes_2 rfl rfl ?_
    refine g_aload_n C 4 1 dX8_passes_3 rfl rfl ?_
    refine g_alen (f := (S.2 6)) C 5 7 rfl dX8_passes_4 rfl ?_
    refine g_icmp_ge C 58 8 dX8_passes_5 (by decide) rfl (fun c => ?_) (fun c => ?_)
    · have h := ifT c h
      exact g_vret (st := []) C E dX8_passes_58 (by obtain rfl := Option.some.inj h; exact ⟨rfl, rfl⟩)
    · have h := ifF c h
      refine g_aload_n C 9 0 dX8_passes_8 rfl rfl ?_
      refine g_get (v := .int (S.1 22)) C 12 8 0 22 hin_8 rfl rfl (by decide) wf_X8_152 rfl dX8_passes_9 rfl ?_
      refine g_if_eq C 30 15 dX8_passes_12 (by decide) rfl (fun c => ?_) (fun c => ?_)
      · have h := ifT c h
        refine g_aload_n C 31 1 dX8_passes_30 rfl rfl ?_
        refine g_iload_n C 32 2 dX8_passes_31 rfl rfl ?_
        refine g_aload_n C 33 0 dX8_passes_32 rfl rfl ?_
        refine g_get (v := .ref (u 20)) C 36 8 0 20 hin_8 rfl rfl (by decide) wf_X8_43 rfl dX8_passes_33 rfl ?_
        refine g_aload_n C 37 0 dX8_passes_36 rfl rfl ?_
        refine g_get (v := .int (S.1 23)) C 40 8 0 23 hin_8 rfl rfl (by decide) wf_X8_156 rfl dX8_passes_37 rfl ?_
        refine grdE h (fun hb h => ?_)
        refine g_iald (f := (S.2 20)) C 41 12 rfl hb dX8_passes_40 rfl ?_
        refine grdE h (fun hb h => ?_)
        refine g_iast (f := (S.2 6)) (w' := (cells8 L o u (sa S 6 (upd (S.2 6) (v2).toNatClampNeg ((S.2 20) ((S.1 23)).toNatClampNeg))))) C 42 7 rfl hb dX8_passes_41 rfl rfl ?_
        exact J_42 _ _ h
      · have h := ifF c h
        refine g_aload_n C 16 0 dX8_passes_15 rfl rfl ?_
        refine g_get (v := .ref (u 20)) C 19 8 0 20 hin_8 rfl rfl (by decide) wf_X8_43 rfl dX8_passes_16 rfl ?_
        refine g_aload_n C 20 0 dX8_passes_19 rfl rfl ?_
        refine g_get (v := .int (S.1 23)) C 23 8 0 23 hin_8 rfl rfl (by decide) wf_X8_156 rfl dX8_passes_20 rfl ?_
        refine g_aload_n C 24 1 dX8_passes_23 rfl rfl ?_
        refine g_iload_n C 25 2 dX8_passes_24 rfl rfl ?_
        refine grdE h (fun hb h => ?_)
        refine g_iald (f := (S.2 6)) C 26 7 rfl hb dX8_passes_25 rfl ?_
        refine grdE h (fun hb h => ?_)
        refine g_iast (f := (S.2 20)) (w' := (cells8 L o u (sa S 20 (upd (S.2 20) ((S.1 23)).toNatClampNeg ((S.2 6) (v2).toNatClampNeg))))) C 27 12 rfl hb dX8_passes_26 rfl rfl ?_
        refine g_goto C 42 dX8_passes_27 (by decide) ?_
        exact J_42 _ _ h
  unfold f_X8_passes_6 at h
  refine g_iconst C 1 (0 : Int32) dX8_passes_0 rfl rfl ?_
  refine g_istore_n C 2 2 [(2, .int (0 : Int32)), (0, .ref o), (1, .ref (u 6))] dX8_passes_1 rfl rfl 3 hNL (by decide) rfl ?_
  refine g_lv (lv' := [(0, .ref o), (1, .ref (u 6)), (2, .int (0 : Int32))]) [1, 2, 0] rfl ?_
  exact J_2 _ _ _ h
set_option maxHeartbeats 4000000 in
set_option maxRecDepth 100000 in
theorem ct_X8_passOne (L : LL) (o : Nat) (u : Nat → Nat) (S : OS) (v1 : Int32) (x : (Int32 × OS)) (h : f_X8_passOne S v1 = some x) : Ct L yX8_passOne cX8_passOne 3 (some .int) (rmk 0 0 0 0) 0 0 [.ref o, .int v1] (cells8 L o u S) (Pv (some (.int x.1)) (cells8 L o u x.2)) := by
  refine g_enter (lv := [(0, .ref o), (1, .int v1)]) kX8_passOne rfl rfl (Nat.le_of_ble_eq_true rfl) (fun Γ C E hNL => ?_)
  have J_38 : ∀ (v2 : Int32) (S : OS), j_X8_passOne_38   v2 S = some x → G L Γ 0 0 (cells8 L o u S) 38 [(0, .ref o), (2, .int v2)] [] := by
    intro v2 S h
    unfold j_X8_passOne_38 at h
    refine g_aload_n C 39 0 dX8_passOne_38 rfl rfl ?_
    refine g_dup C 40 dX8_passOne_39 rfl rfl ?_
    refine g_get (v := .int (S.1 23)) C 43 8 0 23 hin_8 rfl rfl (by decide) wf_X8_156 rfl dX8_passOne_40 rfl ?_
    refine g_iconst C 44 (1 : Int32) dX8_passOne_43 rfl rfl ?_
    refine g_iadd C 45 dX8_passOne_44 rfl ?_
    refine g_put (w' := (cells8 L o u (su S 23 ((S.1 23) + (1 : Int32))))) C 48 8 0 23 hin_8 tyX8 tyX8_ok nmX8 rfl rfl (by decide) wf_X8_156 rfl rfl rfl (Nat.le_of_ble_eq_true rfl) dX8_passOne_45 rfl rfl ?_
    refine g_iload_n C 49 1 dX8_passOne_48 rfl rfl ?_
    exact g_iret (st := []) C E dX8_passOne_49 (by obtain rfl := Option.some.inj h; exact ⟨rfl, rfl⟩)
  have J_20 : ∀ (v1 : Int32) (s0 : Int32) (S : OS), j_X8_passOne_20   v1 s0 S = some x → G L Γ 0 0 (cells8 L o u S) 20 [(0, .ref o), (1, .int v1)] [.int s0] := by
    intro v1 s0 S h
    unfold j_X8_passOne_20 at h
    refine g_istore_n C 21 2 [(2, .int s0), (0, .ref o), (1, .int v1)] dX8_passOne_20 rfl rfl 3 hNL (by decide) rfl ?_
    refine g_aload_n C 22 1 dX8_passOne_21 rfl rfl ?_
    refine g_get (v := .int (S.1 22)) C 25 8 0 22 hin_8 rfl rfl (by decide) wf_X8_152 rfl dX8_passOne_22 rfl ?_
    refine g_if_eq C 38 28 dX8_passOne_25 (by decide) rfl (fun c => ?_) (fun c => ?_)
    · have h := ifT c h
      refine g_lv (lv' := [(0, .ref o), (2, .int s0)]) [1, 0] rfl ?_
      exact J_38 _ _ h
    · have h := ifF c h
      refine g_aload_n C 29 1 dX8_passOne_28 rfl rfl ?_
      refine g_get (v := .ref (u 20)) C 32 8 0 20 hin_8 rfl rfl (by decide) wf_X8_43 rfl dX8_passOne_29 rfl ?_
      refine g_aload_n C 33 1 dX8_passOne_32 rfl rfl ?_
      refine g_get (v := .int (S.1 23)) C 36 8 0 23 hin_8 rfl rfl (by decide) wf_X8_156 rfl dX8_passOne_33 rfl ?_
      refine g_iload_n C 37 2 dX8_passOne_36 rfl rfl ?_
      refine grdE h (fun hb h => ?_)
      refine g_iast (f := (S.2 20)) (w' := (cells8 L o u (sa S 20 (upd (S.2 20) ((S.1 23)).toNatClampNeg v1)))) C 38 12 rfl hb dX8_passOne_37 rfl rfl ?_
      refine g_lv (lv' := [(0, .ref o), (2, .int s0)]) [1, 0] rfl ?_
      exact J_38 _ _ h
  unfold f_X8_passOne at h
  refine g_aload_n C 1 0 dX8_passOne_0 rfl rfl ?_
  refine g_get (v := .int (S.1 22)) C 4 8 0 22 hin_8 rfl rfl (by decide) wf_X8_152 rfl dX8_passOne_1 rfl ?_
  refine g_if_eq C 11 7 dX8_passOne_4 (by decide) rfl (fun c => ?_) (fun c => ?_)
  · have h := ifT c h
    refine g_aload_n C 12 0 dX8_passOne_11 rfl rfl ?_
    refine g_get (v := .ref (u 20)) C 15 8 0 20 hin_8 rfl rfl (by decide) wf_X8_43 rfl dX8_passOne_12 rfl ?_
    refine g_aload_n C 16 0 dX8_passOne_15 rfl rfl ?_
    refine g_get (v := .int (S.1 23)) C 19 8 0 23 hin_8 rfl rfl (by decide) wf_X8_156 rfl dX8_passOne_16 rfl ?_
    refine grdE h (fun hb h => ?_)
    refine g_iald (f := (S.2 20)) C 20 12 rfl hb dX8_passOne_19 rfl ?_
    exact J_20 _ _ _ h
  · have h := ifF c h
    refine g_iload_n C 8 1 dX8_passOne_7 rfl rfl ?_
    refine g_goto C 20 dX8_passOne_8 (by decide) ?_
    exact J_20 _ _ _ h
set_option maxHeartbeats 4000000 in
set_option maxRecDepth 100000 in
theorem ct_X8_passesAll (L : LL) (o : Nat) (u : Nat → Nat) (S : OS) (v1 : Int32) (v2 : Int32) (x : OS) (h : f_X8_passesAll S v1 v2 = some x) : Ct L yX8_passesAll cX8_passesAll 3 none (rmk 1 0 0 22) 0 0 [.ref o, .int v1, .int v2] (cells8 L o u S) (Pv none (cells8 L o u x)) := by
  refine g_enter (lv := [(0, .ref o), (1, .int v1), (2, .int v2)]) kX8_passesAll rfl rfl (Nat.le_of_ble_eq_true rfl) (fun Γ C E hNL => ?_)
  unfold f_X8_passesAll at h
  refine g_aload_n C 1 0 dX8_passesAll_0 rfl rfl ?_
  refine g_bipush C 3 (46 : Int32) dX8_passesAll_1 rfl rfl ?_
  refine g_iload_n C 4 1 dX8_passesAll_3 rfl rfl ?_
  refine g_imul C 5 dX8_passesAll_4 rfl ?_
  refine g_put (w' := (cells8 L o u (su S 23 ((46 : Int32) * v1)))) C 8 8 0 23 hin_8 tyX8 tyX8_ok nmX8 rfl rfl (by decide) wf_X8_156 rfl rfl rfl (Nat.le_of_ble_eq_true rfl) dX8_passesAll_5 rfl rfl ?_
  refine g_aload_n C 9 0 dX8_passesAll_8 rfl rfl ?_
  refine g_iload_n C 10 2 dX8_passesAll_9 rfl rfl ?_
  refine grdE h (fun hb h => ?_)
  refine g_put (w' := (cells8 L o u (su (su S 23 ((46 : Int32) * v1)) 22 v2))) C 13 8 0 22 hin_8 tyX8 tyX8_ok nmX8 rfl rfl (by decide) wf_X8_152 rfl (isB_nar hb) (isB_fit hb) (Nat.le_of_ble_eq_true rfl) dX8_passesAll_10 rfl rfl ?_
  refine g_aload_n C 14 0 dX8_passesAll_13 rfl rfl ?_
  refine g_aload_n C 15 0 dX8_passesAll_14 rfl rfl ?_
  refine g_get (v := .ref (u 1)) C 18 8 0 1 hin_8 rfl rfl (by decide) wf_X8_13 rfl dX8_passesAll_15 rfl ?_
  refine bnd h (fun x1 e1 h => ?_)
  refine g_callVs (w' := (cells8 L o u x1)) C 21 [] [] (ct_X8_passes_1 L o u (su (su S 23 ((46 : Int32) * v1)) 22 v2) x1 e1) kX8_passes kvX8_passes wl_X8_159 8 0 rfl rfl rfl rfl rfl rfl rfl (Nat.le_of_ble_eq_true rfl) ⟨Nat.le_of_ble_eq_true rfl, Nat.le_of_ble_eq_true rfl⟩ ⟨Nat.zero_le _, Nat.zero_le _⟩ dX8_passesAll_18 rfl ?_
  refine g_aload_n C 22 0 dX8_passesAll_21 rfl rfl ?_
  refine g_aload_n C 23 0 dX8_passesAll_22 rfl rfl ?_
  refine g_get (v := .ref (u 2)) C 26 8 0 2 hin_8 rfl rfl (by decide) wf_X8_16 rfl dX8_passesAll_23 rfl ?_
  refine bnd h (fun x2 e2 h => ?_)
  refine g_callVs (w' := (cells8 L o u x2)) C 29 [] [] (ct_X8_passes_2 L o u x1 x2 e2) kX8_passes kvX8_passes wl_X8_159 8 0 rfl rfl rfl rfl rfl rfl rfl (Nat.le_of_ble_eq_true rfl) ⟨Nat.le_of_ble_eq_true rfl, Nat.le_of_ble_eq_true rfl⟩ ⟨Nat.zero_le _, Nat.zero_le _⟩ dX8_passesAll_26 rfl ?_
  refine g_aload_n C 30 0 dX8_passesAll_29 rfl rfl ?_
  refine g_aload_n C 31 0 dX8_passesAll_30 rfl rfl ?_
  refine g_get (v := .ref (u 3)) C 34 8 0 3 hin_8 rfl rfl (by decide) wf_X8_19 rfl dX8_passesAll_31 rfl ?_
  refine bnd h (fun x3 e3 h => ?_)
  refine g_callVs (w' := (cells8 L o u x3)) C 37 [] [] (ct_X8_passes_3 L o u x2 x3 e3) kX8_passes kvX8_passes wl_X8_159 8 0 rfl rfl rfl rfl rfl rfl rfl (Nat.le_of_ble_eq_true rfl) ⟨Nat.le_of_ble_eq_true rfl, Nat.le_of_ble_eq_true rfl⟩ ⟨Nat.zero_le _, Nat.zero_le _⟩ dX8_passesAll_34 rfl ?_
  refine g_aload_n C 38 0 dX8_passesAll_37 rfl rfl ?_
  refine g_aload_n C 39 0 dX8_passesAll_38 rfl rfl ?_
  refine g_get (v := .ref (u 4)) C 42 8 0 4 hin_8 rfl rfl (by decide) wf_X8_22 rfl dX8_passesAll_39 rfl ?_
  refine bnd h (fun x4 e4 h => ?_)
  refine g_callVs (w' := (cells8 L o u x4)) C 45 [] [] (ct_X8_passes_4 L o u x3 x4 e4) kX8_passes kvX8_passes wl_X8_159 8 0 rfl rfl rfl rfl rfl rfl rfl (Nat.le_of_ble_eq_true rfl) ⟨Nat.le_of_ble_eq_true rfl, Nat.le_of_ble_eq_true rfl⟩ ⟨Nat.zero_le _, Nat.zero_le _⟩ dX8_passesAll_42 rfl ?_
  refine g_aload_n C 46 0 dX8_passesAll_45 rfl rfl ?_
  refine g_aload_n C 47 0 dX8_passesAll_46 rfl rfl ?_
  refine g_get (v := .ref (u 5)) C 50 8 0 5 hin_8 rfl rfl (by decide) wf_X8_25 rfl dX8_passesAll_47 rfl ?_
  refine bnd h (fun x5 e5 h => ?_)
  refine g_callVs (w' := (cells8 L o u x5)) C 53 [] [] (ct_X8_passes_5 L o u x4 x5 e5) kX8_passes kvX8_passes wl_X8_159 8 0 rfl rfl rfl rfl rfl rfl rfl (Nat.le_of_ble_eq_true rfl) ⟨Nat.le_of_ble_eq_true rfl, Nat.le_of_ble_eq_true rfl⟩ ⟨Nat.zero_le _, Nat.zero_le _⟩ dX8_passesAll_50 rfl ?_
  refine g_aload_n C 54 0 dX8_passesAll_53 rfl rfl ?_
  refine g_aload_n C 55 0 dX8_passesAll_54 rfl rfl ?_
  refine g_get (v := .ref (u 6)) C 58 8 0 6 hin_8 rfl rfl (by decide) wf_X8_28 rfl dX8_passesAll_55 rfl ?_
  refine bnd h (fun x6 e6 h => ?_)
  refine g_callVs (w' := (cells8 L o u x6)) C 61 [] [] (ct_X8_passes_6 L o u x5 x6 e6) kX8_passes kvX8_passes wl_X8_159 8 0 rfl rfl rfl rfl rfl rfl rfl (Nat.le_of_ble_eq_true rfl) ⟨Nat.le_of_ble_eq_true rfl, Nat.le_of_ble_eq_true rfl⟩ ⟨Nat.zero_le _, Nat.zero_le _⟩ dX8_passesAll_58 rfl ?_
  refine g_aload_n C 62 0 dX8_passesAll_61 rfl rfl ?_
  refine g_aload_n C 63 0 dX8_passesAll_62 rfl rfl ?_
  refine g_aload_n C 64 0 dX8_passesAll_63 rfl rfl ?_
  refine g_get (v := .int (x6.1 7)) C 67 8 0 7 hin_8 rfl rfl (by decide) wf_X8_61 rfl dX8_passesAll_64 rfl ?_
  refine bnd h (fun x7 e7 h => ?_)
  refine g_callVs (w' := (cells8 L o u x7.2)) C 70 [.ref o] [.int x7.1, .ref o] (ct_X8_passOne L o u x6 (x6.1 7) x7 e7) kX8_passOne kvX8_passOne wl_X8_163 8 0 rfl rfl rfl rfl rfl rfl rfl (Nat.le_of_ble_eq_true rfl) ⟨Nat.le_of_ble_eq_true rfl, Nat.le_of_ble_eq_true rfl⟩ ⟨Nat.zero_le _, Nat.zero_le _⟩ dX8_passesAll_67 rfl ?_
  refine g_put (w' := (cells8 L o u (su x7.2 7 x7.1))) C 73 8 0 7 hin_8 tyX8 tyX8_ok nmX8 rfl rfl (by decide) wf_X8_61 rfl rfl rfl (Nat.le_of_ble_eq_true rfl) dX8_passesAll_70 rfl rfl ?_
  refine g_aload_n C 74 0 dX8_passesAll_73 rfl rfl ?_
  refine g_aload_n C 75 0 dX8_passesAll_74 rfl rfl ?_
  refine g_aload_n C 76 0 dX8_passesAll_75 rfl rfl ?_
  refine g_get (v := .int (x7.2.1 8)) C 79 8 0 8 hin_8 rfl rfl (by decide) wf_X8_64 rfl dX8_passesAll_76 rfl ?_
  refine bnd h (fun x8 e8 h => ?_)
  refine g_callVs (w' := (cells8 L o u x8.2)) C 82 [.ref o] [.int x8.1, .ref o] (ct_X8_passOne L o u (su x7.2 7 x7.1) (x7.2.1 8) x8 e8) kX8_passOne kvX8_passOne wl_X8_163 8 0 rfl rfl rfl rfl rfl rfl rfl (Nat.le_of_ble_eq_true rfl) ⟨Nat.le_of_ble_eq_true rfl, Nat.le_of_ble_eq_true rfl⟩ ⟨Nat.zero_le _, Nat.zero_le _⟩ dX8_passesAll_79 rfl ?_
  refine g_put (w' := (cells8 L o u (su x8.2 8 x8.1))) C 85 8 0 8 hin_8 tyX8 tyX8_ok nmX8 rfl rfl (by decide) wf_X8_64 rfl rfl rfl (Nat.le_of_ble_eq_true rfl) dX8_passesAll_82 rfl rfl ?_
  refine g_aload_n C 86 0 dX8_passesAll_85 rfl rfl ?_
  refine g_aload_n C 87 0 dX8_passesAll_86 rfl rfl ?_
  refine g_aload_n C 88 0 dX8_passesAll_87 rfl rfl ?_
  refine g_get (v := .int (x8.2.1 9)) C 91 8 0 9 hin_8 rfl rfl (by decide) wf_X8_67 rfl dX8_passesAll_88 rfl ?_
  refine bnd h (fun x9 e9 h => ?_)
  refine g_callVs (w' := (cells8 L o u x9.2)) C 94 [.ref o] [.int x9.1, .ref o] (ct_X8_passOne L o u (su x8.2 8 x8.1) (x8.2.1 9) x9 e9) kX8_passOne kvX8_passOne wl_X8_163 8 0 rfl rfl rfl rfl rfl rfl rfl (Nat.le_of_ble_eq_true rfl) ⟨Nat.le_of_ble_eq_true rfl, Nat.le_of_ble_eq_true rfl⟩ ⟨Nat.zero_le _, Nat.zero_le _⟩ dX8_passesAll_91 rfl ?_
  refine g_put (w' := (cells8 L o u (su x9.2 9 x9.1))) C 97 8 0 9 hin_8 tyX8 tyX8_ok nmX8 rfl rfl (by decide) wf_X8_67 rfl rfl rfl (Nat.le_of_ble_eq_true rfl) dX8_passesAll_94 rfl rfl ?_
  refine g_aload_n C 98 0 dX8_passesAll_97 rfl rfl ?_
  refine g_aload_n C 99 0 dX8_passesAll_98 rfl rfl ?_
  refine g_aload_n C 100 0 dX8_passesAll_99 rfl rfl ?_
  refine g_get (v := .int (x9.2.1 10)) C 103 8 0 10 hin_8 rfl rfl (by decide) wf_X8_52 rfl dX8_passesAll_100 rfl ?_
  refine bnd h (fun x10 e10 h => ?_)
  refine g_callVs (w' := (cells8 L o u x10.2)) C 106 [.ref o] [.int x10.1, .ref o] (ct_X8_passOne L o u (su x9.2 9 x9.1) (x9.2.1 10) x10 e10) kX8_passOne kvX8_passOne wl_X8_163 8 0 rfl rfl rfl rfl rfl rfl rfl (Nat.le_of_ble_eq_true rfl) ⟨Nat.le_of_ble_eq_true rfl, Nat.le_of_ble_eq_true rfl⟩ ⟨Nat.zero_le _, Nat.zero_le _⟩ dX8_passesAll_103 rfl ?_
  refine g_put (w' := (cells8 L o u (su x10.2 10 x10.1))) C 109 8 0 10 hin_8 tyX8 tyX8_ok nmX8 rfl rfl (by decide) wf_X8_52 rfl rfl rfl (Nat.le_of_ble_eq_true rfl) dX8_passesAll_106 rfl rfl ?_
  refine g_aload_n C 110 0 dX8_passesAll_109 rfl rfl ?_
  refine g_aload_n C 111 0 dX8_passesAll_110 rfl rfl ?_
  refine g_aload_n C 112 0 dX8_passesAll_111 rfl rfl ?_
  refine g_get (v := .int (x10.2.1 11)) C 115 8 0 11 hin_8 rfl rfl (by decide) wf_X8_56 rfl dX8_passesAll_112 rfl ?_
  refine bnd h (fun x11 e11 h => ?_)
  refine g_callVs (w' := (cells8 L o u x11.2)) C 118 [.ref o] [.int x11.1, .ref o] (ct_X8_passOne L o u (su x10.2 10 x10.1) (x10.2.1 11) x11 e11) kX8_passOne kvX8_passOne wl_X8_163 8 0 rfl rfl rfl rfl rfl rfl rfl (Nat.le_of_ble_eq_true rfl) ⟨Nat.le_of_ble_eq_true rfl, Nat.le_of_ble_eq_true rfl⟩ ⟨Nat.zero_le _, Nat.zero_le _⟩ dX8_passesAll_115 rfl ?_
  refine g_put (w' := (cells8 L o u (su x11.2 11 x11.1))) C 121 8 0 11 hin_8 tyX8 tyX8_ok nmX8 rfl rfl (by decide) wf_X8_56 rfl rfl rfl (Nat.le_of_ble_eq_true rfl) dX8_passesAll_118 rfl rfl ?_
  refine g_aload_n C 122 0 dX8_passesAll_121 rfl rfl ?_
  refine g_aload_n C 123 0 dX8_passesAll_122 rfl rfl ?_
  refine g_aload_n C 124 0 dX8_passesAll_123 rfl rfl ?_
  refine g_get (v := .int (x11.2.1 12)) C 127 8 0 12 hin_8 rfl rfl (by decide) wf_X8_129 rfl dX8_passesAll_124 rfl ?_
  refine bnd h (fun x12 e12 h => ?_)
  refine g_callVs (w' := (cells8 L o u x12.2)) C 130 [.ref o] [.int x12.1, .ref o] (ct_X8_passOne L o u (su x11.2 11 x11.1) (x11.2.1 12) x12 e12) kX8_passOne kvX8_passOne wl_X8_163 8 0 rfl rfl rfl rfl rfl rfl rfl (Nat.le_of_ble_eq_true rfl) ⟨Nat.le_of_ble_eq_true rfl, Nat.le_of_ble_eq_true rfl⟩ ⟨Nat.zero_le _, Nat.zero_le _⟩ dX8_passesAll_127 rfl ?_
  refine g_put (w' := (cells8 L o u (su x12.2 12 x12.1))) C 133 8 0 12 hin_8 tyX8 tyX8_ok nmX8 rfl rfl (by decide) wf_X8_129 rfl rfl rfl (Nat.le_of_ble_eq_true rfl) dX8_passesAll_130 rfl rfl ?_
  exact g_vret (st := []) C E dX8_passesAll_133 (by obtain rfl := Option.some.inj h; exact ⟨rfl, rfl⟩)
set_option maxHeartbeats 4000000 in
set_option maxRecDepth 100000 in
theorem ct_X8_town (L : LL) (o : Nat) (u : Nat → Nat) (S : OS) (x : (Int32 × OS)) (h : f_X8_town S = some x) : Ct L yX8_town cX8_town 3 (some .int) (rmk 4 0 0 89) 0 0 [.ref o] (cells8 L o u S) (Pv (some (.int x.1)) (cells8 L o u x.2)) := by
  refine g_enter (lv := [(0, .ref o)]) kX8_town rfl rfl (Nat.le_of_ble_eq_true rfl) (fun Γ C E hNL => ?_)
  have J_105 : ∀ (v2 : Int32) (S : OS), j_X8_town_105   v2 S = some x → G L Γ 0 0 (cells8 L o u S) 105 [(0, .ref o), (2, .int v2)] [] := by
    intro v2 S h
    unfold j_X8_town_105 at h
    refine g_aload_n C 106 0 dX8_town_105 rfl rfl ?_
    refine g_iconst C 107 (1 : Int32) dX8_town_106 rfl rfl ?_
    refine g_iconst C 108 (0 : Int32) dX8_town_107 rfl rfl ?_
    refine bnd h (fun x4 e4 h => ?_)
    refine g_callVs (w' := (cells8 L o u x4)) C 111 [] [] (ct_X8_passesAll L o u S (1 : Int32) (0 : Int32) x4 e4) kX8_passesAll kvX8_passesAll wl_X8_142 8 0 rfl rfl rfl rfl rfl rfl rfl (Nat.le_of_ble_eq_true rfl) ⟨Nat.le_of_ble_eq_true rfl, Nat.le_of_ble_eq_true rfl⟩ ⟨Nat.zero_le _, Nat.zero_le _⟩ dX8_town_108 rfl ?_
    refine g_sipush C 114 (-2000 : Int32) dX8_town_111 rfl rfl ?_
    refine g_aload_n C 115 0 dX8_town_114 rfl rfl ?_
    refine g_get (v := .ref (u 15)) C 118 8 0 15 hin_8 rfl rfl (by decide) wf_X8_37 rfl dX8_town_115 rfl ?_
    refine g_iload_n C 119 1 dX8_town_118 rfl rfl ?_
    refine grdE h (fun hb h => ?_)
    refine g_iald (f := (x4.2 15)) C 120 10 rfl hb dX8_town_119 rfl ?_
    refine g_isub C 121 dX8_town_120 rfl ?_
    exact g_iret (st := []) C E dX8_town_121 (by obtain rfl := Option.some.inj h; exact ⟨rfl, rfl⟩)
  have J_86 : ∀ (n : Nat)  (v2 : Int32) (S : OS), Lp2 (b_X8_town_86   ) n v2 S = some x → G L Γ 0 0 (cells8 L o u S) 86 [(0, .ref o), (2, .int v2)] [] := by
    intro n 
    refine lp_ok2 (fun v2 S => G L Γ 0 0 (cells8 L o u S) 86 [(0, .ref o), (2, .int v2)] []) (fun k_86 hk_86 => ?_) n
    intro v2 S h
    unfold b_X8_town_86 at h
    refine g_iload_n C 87 1 dX8_town_86 rfl rfl ?_
    refine g_aload_n C 88 0 dX8_town_87 rfl rfl ?_
    refine g_get (v := .int (S.1 19)) C 91 8 0 19 hin_8 rfl rfl (by decide) wf_X8_100 rfl dX8_town_88 rfl ?_
    refine g_icmp_ge C 128 94 dX8_town_91 (by decide) rfl (fun c => ?_) (fun c => ?_)
    · have h := ifT c h
      refine g_aload_n C 129 0 dX8_town_128 rfl rfl ?_
      refine g_iconst C 130 (0 : Int32) dX8_town_129 rfl rfl ?_
      refine g_put (w' := (cells8 L o u (su S 24 (0 : Int32)))) C 133 8 0 24 hin_8 tyX8 tyX8_ok nmX8 rfl rfl (by decide) wf_X8_149 rfl rfl rfl (Nat.le_of_ble_eq_true rfl) dX8_town_130 rfl rfl ?_
      refine g_aload_n C 134 0 dX8_town_133 rfl rfl ?_
      refine g_get (v := .int (S.1 19)) C 137 8 0 19 hin_8 rfl rfl (by decide) wf_X8_100 rfl dX8_town_134 rfl ?_
      exact g_iret (st := []) C E dX8_town_137 (by obtain rfl := Option.some.inj h; exact ⟨rfl, rfl⟩)
    · have h := ifF c h
      refine g_aload_n C 95 0 dX8_town_94 rfl rfl ?_
      refine g_iload_n C 96 1 dX8_town_95 rfl rfl ?_
      refine bnd h (fun x3 e3 h => ?_)
      refine g_callVs (w' := (cells8 L o u x3.2)) C 99 [] [.int x3.1] (ct_X8_comes L o u S v2 x3 e3) kX8_comes kvX8_comes wl_X8_146 8 0 rfl rfl rfl rfl rfl rfl rfl (Nat.le_of_ble_eq_true rfl) ⟨Nat.le_of_ble_eq_true rfl, Nat.le_of_ble_eq_true rfl⟩ ⟨Nat.zero_le _, Nat.zero_le _⟩ dX8_town_96 rfl ?_
      refine g_if_eq C 105 102 dX8_town_99 (by decide) rfl (fun c => ?_) (fun c => ?_)
      · have h := ifT c h
        exact J_105 _ _ h
      · have h := ifF c h
        refine g_goto C 122 dX8_town_102 (by decide) ?_
        refine g_iinc C 125 (1 : Int32) 1 [(2, .int (v2 + (1 : Int32))), (0, .ref o)] dX8_town_122 rfl rfl 3 hNL (by decide) rfl rfl ?_
        refine g_goto C 86 dX8_town_125 (by decide) ?_
        refine g_lv (lv' := [(0, .ref o), (2, .int (v2 + (1 : Int32)))]) [1, 0] rfl ?_
        exact hk_86 _ _ h
  have J_60 : ∀ (v1 : Int32) (S : OS), j_X8_town_60   v1 S = some x → G L Γ 0 0 (cells8 L o u S) 60 [(0, .ref o), (1, .int v1)] [] := by
    intro v1 S h
    unfold j_X8_town_60 at h
    refine g_aload_n C 61 0 dX8_town_60 rfl rfl ?_
    refine g_iconst C 62 (0 : Int32) dX8_town_61 rfl rfl ?_
    refine g_put (w' := (cells8 L o u (su S 17 (0 : Int32)))) C 65 8 0 17 hin_8 tyX8 tyX8_ok nmX8 rfl rfl (by decide) wf_X8_74 rfl rfl rfl (Nat.le_of_ble_eq_true rfl) dX8_town_62 rfl rfl ?_
    refine g_iload_n C 66 1 dX8_town_65 rfl rfl ?_
    refine g_if_ne C 78 69 dX8_town_66 (by decide) rfl (fun c => ?_) (fun c => ?_)
    · have h := ifF c h
      refine g_aload_n C 79 0 dX8_town_78 rfl rfl ?_
      refine g_iconst C 80 (1 : Int32) dX8_town_79 rfl rfl ?_
      refine g_iconst C 81 (1 : Int32) dX8_town_80 rfl rfl ?_
      refine bnd h (fun x1 e1 h => ?_)
      refine g_callVs (w' := (cells8 L o u x1)) C 84 [] [] (ct_X8_passesAll L o u (su S 17 (0 : Int32)) (1 : Int32) (1 : Int32) x1 e1) kX8_passesAll kvX8_passesAll wl_X8_142 8 0 rfl rfl rfl rfl rfl rfl rfl (Nat.le_of_ble_eq_true rfl) ⟨Nat.le_of_ble_eq_true rfl, Nat.le_of_ble_eq_true rfl⟩ ⟨Nat.zero_le _, Nat.zero_le _⟩ dX8_town_81 rfl ?_
      refine g_iconst C 85 (0 : Int32) dX8_town_84 rfl rfl ?_
      refine g_istore_n C 86 2 [(2, .int (0 : Int32)), (0, .ref o), (1, .int v1)] dX8_town_85 rfl rfl 3 hNL (by decide) rfl ?_
      refine g_lv (lv' := [(0, .ref o), (2, .int (0 : Int32))]) [1, 0] rfl ?_
      exact J_86 _ _ _ h
    · have h := ifT c h
      refine g_sipush C 72 (-1000 : Int32) dX8_town_69 rfl rfl ?_
      refine g_aload_n C 73 0 dX8_town_72 rfl rfl ?_
      refine g_get (v := .int (S.1 18)) C 76 8 0 18 hin_8 rfl rfl (by decide) wf_X8_81 rfl dX8_town_73 rfl ?_
      refine g_isub C 77 dX8_town_76 rfl ?_
      exact g_iret (st := []) C E dX8_town_77 (by obtain rfl := Option.some.inj h; exact ⟨rfl, rfl⟩)
  have J_12 : ∀ (n : Nat)  (v1 : Int32) (S : OS), Lp2 (b_X8_town_12   ) n v1 S = some x → G L Γ 0 0 (cells8 L o u S) 12 [(0, .ref o), (1, .int v1)] [] := by
    intro n 
    refine lp_ok2 (fun v1 S => G L Γ 0 0 (cells8 L o u S) 12 [(0, .ref o), (1, .int v1)] []) (fun k_12 hk_12 => ?_) n
    have J_53 : ∀ (v1 : Int32) (s0 : Int32) (s1 : Int32) (S : OS), j_X8_town_53  k_12 v1 s0 s1 S = some x → G L Γ 0 0 (cells8 L o u S) 53 [(0, .ref o), (1, .int v1)] [.int s0, .int s1, .ref o] := by
      intro v1 s0 s1 S h
      unfold j_X8_town_53 at h
      refine g_iadd C 54 dX8_town_53 rfl ?_
      refine g_put (w' := (cells8 L o u (su S 19 (s1 + s0)))) C 57 8 0 19 hin_8 tyX8 tyX8_ok nmX8 rfl rfl (by decide) wf_X8_100 rfl rfl rfl (Nat.le_of_ble_eq_true rfl) dX8_town_54 rfl rfl ?_
      refine g_goto C 12 dX8_town_57 (by decide) ?_
      exact hk_12 _ _ h
    have J_34 : ∀ (S : OS), j_X8_town_34  k_12 S = some x → G L Γ 0 0 (cells8 L o u S) 34 [(0, .ref o)] [] := by
      intro S h
      unfold j_X8_town_34 at h
      refine g_aload_n C 35 0 dX8_town_34 rfl rfl ?_
      refine bnd h (fun x2 e2 h => ?_)
      refine g_callVs (w' := (cells8 L o u x2.2)) C 38 [] [.int x2.1] (ct_X8_statement L o u S x2 e2) kX8_statement kvX8_statement wl_X8_138 8 0 rfl rfl rfl rfl rfl rfl rfl (Nat.le_of_ble_eq_true rfl) ⟨Nat.le_of_ble_eq_true rfl, Nat.le_of_ble_eq_true rfl⟩ ⟨Nat.zero_le _, Nat.zero_le _⟩ dX8_town_35 rfl ?_
      refine g_istore_n C 39 1 [(1, .int x2.1), (0, .ref o)] dX8_town_38 rfl rfl 3 hNL (by decide) rfl ?_
      refine g_aload_n C 40 1 dX8_town_39 rfl rfl ?_
      refine g_dup C 41 dX8_town_40 rfl rfl ?_
      refine g_get (v := .int (x2.2.1 19)) C 44 8 0 19 hin_8 rfl rfl (by decide) wf_X8_100 rfl dX8_town_41 rfl ?_
      refine g_iload_n C 45 0 dX8_town_44 rfl rfl ?_
      refine g_if_eq C 52 48 dX8_town_45 (by decide) rfl (fun c => ?_) (fun c => ?_)
      · have h := ifT c h
        refine g_iconst C 53 (0 : Int32) dX8_town_52 rfl rfl ?_
        refine g_lv (lv' := [(0, .ref o), (1, .int x2.1)]) [1, 0] rfl ?_
        exact J_53 _ _ _ _ h
      · have h := ifF c h
        refine g_iconst C 49 (1 : Int32) dX8_town_48 rfl rfl ?_
        refine g_goto C 53 dX8_town_49 (by decide) ?_
        refine g_lv (lv' := [(0, .ref o), (1, .int x2.1)]) [1, 0] rfl ?_
        exact J_53 _ _ _ _ h
    intro v1 S h
    unfold b_X8_town_12 at h
    refine g_iload_n C 13 1 dX8_town_12 rfl rfl ?_
    refine g_if_eq C 60 16 dX8_town_13 (by decide) rfl (fun c => ?_) (fun c => ?_)
    · have h := ifT c h
      exact J_60 _ _ h
    · have h := ifF c h
      refine g_aload_n C 17 0 dX8_town_16 rfl rfl ?_
      refine g_get (v := .int (S.1 18)) C 20 8 0 18 hin_8 rfl rfl (by decide) wf_X8_81 rfl dX8_town_17 rfl ?_
      refine g_aload_n C 21 0 dX8_town_20 rfl rfl ?_
      refine g_get (v := .int (S.1 17)) C 24 8 0 17 hin_8 rfl rfl (by decide) wf_X8_74 rfl dX8_town_21 rfl ?_
      refine g_icmp_lt C 34 27 dX8_town_24 (by decide) rfl (fun c => ?_) (fun c => ?_)
      · have h := ifT c h
        refine g_lv (lv' := [(0, .ref o)]) [0] rfl ?_
        exact J_34 _ h
      · have h := ifF c h
        refine g_aload_n C 28 0 dX8_town_27 rfl rfl ?_
        refine g_get (v := .int (S.1 19)) C 31 8 0 19 hin_8 rfl rfl (by decide) wf_X8_100 rfl dX8_town_28 rfl ?_
        refine g_if_ne C 60 34 dX8_town_31 (by decide) rfl (fun c => ?_) (fun c => ?_)
        · have h := ifF c h
          exact J_60 _ _ h
        · have h := ifT c h
          refine g_lv (lv' := [(0, .ref o)]) [0] rfl ?_
          exact J_34 _ h
  unfold f_X8_town at h
  refine g_aload_n C 1 0 dX8_town_0 rfl rfl ?_
  refine g_iconst C 2 (0 : Int32) dX8_town_1 rfl rfl ?_
  refine g_put (w' := (cells8 L o u (su S 18 (0 : Int32)))) C 5 8 0 18 hin_8 tyX8 tyX8_ok nmX8 rfl rfl (by decide) wf_X8_81 rfl rfl rfl (Nat.le_of_ble_eq_true rfl) dX8_town_2 rfl rfl ?_
  refine g_aload_n C 6 0 dX8_town_5 rfl rfl ?_
  refine g_iconst C 7 (0 : Int32) dX8_town_6 rfl rfl ?_
  refine g_put (w' := (cells8 L o u (su (su S 18 (0 : Int32)) 19 (0 : Int32)))) C 10 8 0 19 hin_8 tyX8 tyX8_ok nmX8 rfl rfl (by decide) wf_X8_100 rfl rfl rfl (Nat.le_of_ble_eq_true rfl) dX8_town_7 rfl rfl ?_
  refine g_iconst C 11 (1 : Int32) dX8_town_10 rfl rfl ?_
  refine g_istore_n C 12 1 [(1, .int (1 : Int32)), (0, .ref o)] dX8_town_11 rfl rfl 3 hNL (by decide) rfl ?_
  refine g_lv (lv' := [(0, .ref o), (1, .int (1 : Int32))]) [1, 0] rfl ?_
  exact J_12 _ _ _ h
set_option maxHeartbeats 4000000 in
set_option maxRecDepth 100000 in
theorem ct_X8_keepsBack (L : LL) (o : Nat) (u : Nat → Nat) (S : OS) (x : OS) (h : f_X8_keepsBack S = some x) : Ct L yX8_keepsBack cX8_keepsBack 2 none (rmk 2 0 0 44) 0 0 [.ref o] (cells8 L o u S) (Pv none (cells8 L o u x)) := by
  refine g_enter (lv := [(0, .ref o)]) kX8_keepsBack rfl rfl (Nat.le_of_ble_eq_true rfl) (fun Γ C E hNL => ?_)
  have J_50 : ∀ (S : OS), j_X8_keepsBack_50   S = some x → G L Γ 0 0 (cells8 L o u S) 50 [(0, .ref o)] [] := by
    intro S h
    unfold j_X8_keepsBack_50 at h
    refine g_aload_n C 51 0 dX8_keepsBack_50 rfl rfl ?_
    refine g_iconst C 52 (2 : Int32) dX8_keepsBack_51 rfl rfl ?_
    refine g_aload_n C 53 0 dX8_keepsBack_52 rfl rfl ?_
    refine g_get (v := .int (S.1 24)) C 56 8 0 24 hin_8 rfl rfl (by decide) wf_X8_149 rfl dX8_keepsBack_53 rfl ?_
    refine g_iadd C 57 dX8_keepsBack_56 rfl ?_
    refine g_iconst C 58 (1 : Int32) dX8_keepsBack_57 rfl rfl ?_
    refine bnd h (fun x1 e1 h => ?_)
    refine g_callVs (w' := (cells8 L o u x1)) C 61 [] [] (ct_X8_passesAll L o u S ((2 : Int32) + (S.1 24)) (1 : Int32) x1 e1) kX8_passesAll kvX8_passesAll wl_X8_142 8 0 rfl rfl rfl rfl rfl rfl rfl (Nat.le_of_ble_eq_true rfl) ⟨Nat.le_of_ble_eq_true rfl, Nat.le_of_ble_eq_true rfl⟩ ⟨Nat.zero_le _, Nat.zero_le _⟩ dX8_keepsBack_58 rfl ?_
    refine g_aload_n C 62 0 dX8_keepsBack_61 rfl rfl ?_
    refine g_dup C 63 dX8_keepsBack_62 rfl rfl ?_
    refine g_get (v := .int (x1.1 24)) C 66 8 0 24 hin_8 rfl rfl (by decide) wf_X8_149 rfl dX8_keepsBack_63 rfl ?_
    refine g_iconst C 67 (1 : Int32) dX8_keepsBack_66 rfl rfl ?_
    refine g_iadd C 68 dX8_keepsBack_67 rfl ?_
    refine g_put (w' := (cells8 L o u (su x1 24 ((x1.1 24) + (1 : Int32))))) C 71 8 0 24 hin_8 tyX8 tyX8_ok nmX8 rfl rfl (by decide) wf_X8_149 rfl rfl rfl (Nat.le_of_ble_eq_true rfl) dX8_keepsBack_68 rfl rfl ?_
    exact g_vret (st := []) C E dX8_keepsBack_71 (by obtain rfl := Option.some.inj h; exact ⟨rfl, rfl⟩)
  have J_40 : ∀ (S : OS), j_X8_keepsBack_40   S = some x → G L Γ 0 0 (cells8 L o u S) 40 [(0, .ref o)] [] := by
    intro S h
    unfold j_X8_keepsBack_40 at h
    refine g_aload_n C 41 0 dX8_keepsBack_40 rfl rfl ?_
    refine g_dup C 42 dX8_keepsBack_41 rfl rfl ?_
    refine g_get (v := .int (S.1 24)) C 45 8 0 24 hin_8 rfl rfl (by decide) wf_X8_149 rfl dX8_keepsBack_42 rfl ?_
    refine g_iconst C 46 (1 : Int32) dX8_keepsBack_45 rfl rfl ?_
    refine g_isub C 47 dX8_keepsBack_46 rfl ?_
    refine g_put (w' := (cells8 L o u (su S 24 ((S.1 24) - (1 : Int32))))) C 50 8 0 24 hin_8 tyX8 tyX8_ok nmX8 rfl rfl (by decide) wf_X8_149 rfl rfl rfl (Nat.le_of_ble_eq_true rfl) dX8_keepsBack_47 rfl rfl ?_
    exact J_50 _ h
  have J_12 : ∀ (n : Nat)  (v1 : Int32) (S : OS), Lp2 (b_X8_keepsBack_12   ) n v1 S = some x → G L Γ 0 0 (cells8 L o u S) 12 [(0, .ref o), (1, .int v1)] [] := by
    intro n 
    refine lp_ok2 (fun v1 S => G L Γ 0 0 (cells8 L o u S) 12 [(0, .ref o), (1, .int v1)] []) (fun k_12 hk_12 => ?_) n
    intro v1 S h
    unfold b_X8_keepsBack_12 at h
    refine g_iload_n C 13 1 dX8_keepsBack_12 rfl rfl ?_
    refine g_sipush C 16 (414 : Int32) dX8_keepsBack_13 rfl rfl ?_
    refine g_icmp_ge C 40 19 dX8_keepsBack_16 (by decide) rfl (fun c => ?_) (fun c => ?_)
    · have h := ifT c h
      refine g_lv (lv' := [(0, .ref o)]) [0] rfl ?_
      exact J_40 _ h
    · have h := ifF c h
      refine g_aload_n C 20 0 dX8_keepsBack_19 rfl rfl ?_
      refine g_get (v := .ref (u 20)) C 23 8 0 20 hin_8 rfl rfl (by decide) wf_X8_43 rfl dX8_keepsBack_20 rfl ?_
      refine g_iload_n C 24 1 dX8_keepsBack_23 rfl rfl ?_
      refine g_aload_n C 25 0 dX8_keepsBack_24 rfl rfl ?_
      refine g_get (v := .ref (u 20)) C 28 8 0 20 hin_8 rfl rfl (by decide) wf_X8_43 rfl dX8_keepsBack_25 rfl ?_
      refine g_iload_n C 29 1 dX8_keepsBack_28 rfl rfl ?_
      refine g_bipush C 31 (46 : Int32) dX8_keepsBack_29 rfl rfl ?_
      refine g_iadd C 32 dX8_keepsBack_31 rfl ?_
      refine grdE h (fun hb h => ?_)
      refine g_iald (f := (S.2 20)) C 33 12 rfl hb dX8_keepsBack_32 rfl ?_
      refine grdE h (fun hb h => ?_)
      refine g_iast (f := (S.2 20)) (w' := (cells8 L o u (sa S 20 (upd (S.2 20) (v1).toNatClampNeg ((S.2 20) ((v1 + (46 : Int32))).toNatClampNeg))))) C 34 12 rfl hb dX8_keepsBack_33 rfl rfl ?_
      refine g_iinc C 37 (1 : Int32) 1 [(1, .int (v1 + (1 : Int32))), (0, .ref o)] dX8_keepsBack_34 rfl rfl 2 hNL (by decide) rfl rfl ?_
      refine g_goto C 12 dX8_keepsBack_37 (by decide) ?_
      refine g_lv (lv' := [(0, .ref o), (1, .int (v1 + (1 : Int32)))]) [1, 0] rfl ?_
      exact hk_12 _ _ h
  unfold f_X8_keepsBack at h
  refine g_aload_n C 1 0 dX8_keepsBack_0 rfl rfl ?_
  refine g_get (v := .int (S.1 24)) C 4 8 0 24 hin_8 rfl rfl (by decide) wf_X8_149 rfl dX8_keepsBack_1 rfl ?_
  refine g_bipush C 6 (8 : Int32) dX8_keepsBack_4 rfl rfl ?_
  refine g_icmp_ne C 50 9 dX8_keepsBack_6 (by decide) rfl (fun c => ?_) (fun c => ?_)
  · have h := ifF c h
    exact J_50 _ h
  · have h := ifT c h
    refine g_bipush C 11 (92 : Int32) dX8_keepsBack_9 rfl rfl ?_
    refine g_istore_n C 12 1 [(1, .int (92 : Int32)), (0, .ref o)] dX8_keepsBack_11 rfl rfl 2 hNL (by decide) rfl ?_
    refine g_lv (lv' := [(0, .ref o), (1, .int (92 : Int32))]) [1, 0] rfl ?_
    exact J_12 _ _ _ h
set_option maxHeartbeats 4000000 in
set_option maxRecDepth 100000 in
theorem ct_X8_back (L : LL) (o : Nat) (u : Nat → Nat) (S : OS) (x : (Int32 × OS)) (h : f_X8_back S = some x) : Ct L yX8_back cX8_back 1 (some .int) (rmk 2 0 0 44) 0 0 [.ref o] (cells8 L o u S) (Pv (some (.int x.1)) (cells8 L o u x.2)) := by
  refine g_enter (lv := [(0, .ref o)]) kX8_back rfl rfl (Nat.le_of_ble_eq_true rfl) (fun Γ C E hNL => ?_)
  unfold f_X8_back at h
  refine g_aload_n C 1 0 dX8_back_0 rfl rfl ?_
  refine g_get (v := .int (S.1 24)) C 4 8 0 24 hin_8 rfl rfl (by decide) wf_X8_149 rfl dX8_back_1 rfl ?_
  refine g_if_ne C 14 7 dX8_back_4 (by decide) rfl (fun c => ?_) (fun c => ?_)
  · have h := ifF c h
    refine g_aload_n C 15 0 dX8_back_14 rfl rfl ?_
    refine g_dup C 16 dX8_back_15 rfl rfl ?_
    refine g_get (v := .int (S.1 24)) C 19 8 0 24 hin_8 rfl rfl (by decide) wf_X8_149 rfl dX8_back_16 rfl ?_
    refine g_iconst C 20 (1 : Int32) dX8_back_19 rfl rfl ?_
    refine g_isub C 21 dX8_back_20 rfl ?_
    refine g_put (w' := (cells8 L o u (su S 24 ((S.1 24) - (1 : Int32))))) C 24 8 0 24 hin_8 tyX8 tyX8_ok nmX8 rfl rfl (by decide) wf_X8_149 rfl rfl rfl (Nat.le_of_ble_eq_true rfl) dX8_back_21 rfl rfl ?_
    refine g_aload_n C 25 0 dX8_back_24 rfl rfl ?_
    refine g_iconst C 26 (2 : Int32) dX8_back_25 rfl rfl ?_
    refine g_aload_n C 27 0 dX8_back_26 rfl rfl ?_
    refine g_get (v := .int ((S.1 24) - (1 : Int32))) C 30 8 0 24 hin_8 rfl rfl (by decide) wf_X8_149 rfl dX8_back_27 rfl ?_
    refine g_iadd C 31 dX8_back_30 rfl ?_
    refine g_iconst C 32 (0 : Int32) dX8_back_31 rfl rfl ?_
    refine bnd h (fun x1 e1 h => ?_)
    refine g_callVs (w' := (cells8 L o u x1)) C 35 [] [] (ct_X8_passesAll L o u (su S 24 ((S.1 24) - (1 : Int32))) ((2 : Int32) + ((S.1 24) - (1 : Int32))) (0 : Int32) x1 e1) kX8_passesAll kvX8_passesAll wl_X8_142 8 0 rfl rfl rfl rfl rfl rfl rfl (Nat.le_of_ble_eq_true rfl) ⟨Nat.le_of_ble_eq_true rfl, Nat.le_of_ble_eq_true rfl⟩ ⟨Nat.zero_le _, Nat.zero_le _⟩ dX8_back_32 rfl ?_
    refine g_aload_n C 36 0 dX8_back_35 rfl rfl ?_
    refine g_get (v := .int (x1.1 24)) C 39 8 0 24 hin_8 rfl rfl (by decide) wf_X8_149 rfl dX8_back_36 rfl ?_
    exact g_iret (st := []) C E dX8_back_39 (by obtain rfl := Option.some.inj h; exact ⟨rfl, rfl⟩)
  · have h := ifT c h
    refine g_aload_n C 8 0 dX8_back_7 rfl rfl ?_
    refine g_bipush C 10 (-3 : Int32) dX8_back_8 rfl rfl ?_
    refine bnd h (fun x2 e2 h => ?_)
    refine g_callVs (w' := (cells8 L o u x2.2)) C 13 [] [.int x2.1] (ct_X8_no L o u S (-3 : Int32) x2 e2) kX8_no kvX8_no wl_X8_77 8 0 rfl rfl rfl rfl rfl rfl rfl (Nat.le_of_ble_eq_true rfl) ⟨Nat.le_of_ble_eq_true rfl, Nat.le_of_ble_eq_true rfl⟩ ⟨Nat.zero_le _, Nat.zero_le _⟩ dX8_back_10 rfl ?_
    exact g_iret (st := []) C E dX8_back_13 (by obtain rfl := Option.some.inj h; exact ⟨rfl, rfl⟩)
set_option maxHeartbeats 4000000 in
set_option maxRecDepth 100000 in
theorem ct_X8_image (L : LL) (o : Nat) (u : Nat → Nat) (S : OS) (x : (Int32 × OS)) (h : f_X8_image S = some x) : Ct L yX8_image cX8_image 1 (some .int) (rmk 2 0 0 44) 0 0 [.ref o] (cells8 L o u S) (Pv (some (.int x.1)) (cells8 L o u x.2)) := by
  refine g_enter (lv := [(0, .ref o)]) kX8_image rfl rfl (Nat.le_of_ble_eq_true rfl) (fun Γ C E hNL => ?_)
  unfold f_X8_image at h
  refine g_aload_n C 1 0 dX8_image_0 rfl rfl ?_
  refine g_iconst C 2 (1 : Int32) dX8_image_1 rfl rfl ?_
  refine g_put (w' := (cells8 L o u (su S 21 (1 : Int32)))) C 5 8 0 21 hin_8 tyX8 tyX8_ok nmX8 rfl rfl (by decide) wf_X8_166 rfl (by decide +kernel) (by decide +kernel) (Nat.le_of_ble_eq_true rfl) dX8_image_2 rfl rfl ?_
  refine g_aload_n C 6 0 dX8_image_5 rfl rfl ?_
  refine g_iconst C 7 (0 : Int32) dX8_image_6 rfl rfl ?_
  refine g_iconst C 8 (1 : Int32) dX8_image_7 rfl rfl ?_
  refine bnd h (fun x1 e1 h => ?_)
  refine g_callVs (w' := (cells8 L o u x1)) C 11 [] [] (ct_X8_passesAll L o u (su S 21 (1 : Int32)) (0 : Int32) (1 : Int32) x1 e1) kX8_passesAll kvX8_passesAll wl_X8_142 8 0 rfl rfl rfl rfl rfl rfl rfl (Nat.le_of_ble_eq_true rfl) ⟨Nat.le_of_ble_eq_true rfl, Nat.le_of_ble_eq_true rfl⟩ ⟨Nat.zero_le _, Nat.zero_le _⟩ dX8_image_8 rfl ?_
  refine g_aload_n C 12 0 dX8_image_11 rfl rfl ?_
  refine g_get (v := .int (x1.1 12)) C 15 8 0 12 hin_8 rfl rfl (by decide) wf_X8_129 rfl dX8_image_12 rfl ?_
  exact g_iret (st := []) C E dX8_image_15 (by obtain rfl := Option.some.inj h; exact ⟨rfl, rfl⟩)
