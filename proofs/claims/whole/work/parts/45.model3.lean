set_option maxHeartbeats 4000000 in
set_option maxRecDepth 100000 in
theorem ct_X8_followed (L : LL) (o : Nat) (u : Nat → Nat) (S : OS) (v1 : Int32) (x : Int32) (h : f_X8_followed S v1 = some x) : Ct L yX8_followed cX8_followed 4 (some .int) (rmk 0 0 0 0) 0 0 [.ref o, .int v1] (cells8 L o u S) (Pv (some (.int x)) (cells8 L o u S)) := by
  refine g_enter (lv := [(0, .ref o), (1, .int v1)]) kX8_followed rfl rfl (Nat.le_of_ble_eq_true rfl) (fun Γ C E hNL => ?_)
  have J_4 : ∀ (n : Nat) (v1 : Int32) (v2 : Int32) (v3 : Int32), Lp2 (b_X8_followed_4 S  v1) n v2 v3 = some x → G L Γ 0 0 (cells8 L o u S) 4 [(0, .ref o), (1, .int v1), (2, .int v2), (3, .int v3)] [] := by
    intro n v1
    refine lp_ok2 (fun v2 v3 => G L Γ 0 0 (cells8 L o u S) 4 [(0, .ref o), (1, .int v1), (2, .int v2), (3, .int v3)] []) (fun k_4 hk_4 => ?_) n
    intro v2 v3 h
    unfold b_X8_followed_4 at h
    refine g_iload_n C 5 3 dX8_followed_4 rfl rfl ?_
    refine g_iload_n C 6 1 dX8_followed_5 rfl rfl ?_
    refine g_icmp_ge C 36 9 dX8_followed_6 (by decide) rfl (fun c => ?_) (fun c => ?_)
    · have h := ifT c h
      refine g_iload_n C 37 2 dX8_followed_36 rfl rfl ?_
      exact g_iret (st := []) C E dX8_followed_37 (by obtain rfl := Option.some.inj h; exact ⟨rfl, rfl⟩)
    · have h := ifF c h
      refine g_aload_n C 10 0 dX8_followed_9 rfl rfl ?_
      refine g_get (v := .int (S.1 8)) C 13 8 0 8 hin_8 rfl rfl (by decide) wf_X8_64 rfl dX8_followed_10 rfl ?_
      refine g_if_le C 36 16 dX8_followed_13 (by decide) rfl (fun c => ?_) (fun c => ?_)
      · have h := ifT c h
        refine g_iload_n C 37 2 dX8_followed_36 rfl rfl ?_
        exact g_iret (st := []) C E dX8_followed_37 (by obtain rfl := Option.some.inj h; exact ⟨rfl, rfl⟩)
      · have h := ifF c h
        refine g_iload_n C 17 2 dX8_followed_16 rfl rfl ?_
        refine g_aload_n C 18 0 dX8_followed_17 rfl rfl ?_
        refine g_get (v := .ref (u 4)) C 21 8 0 4 hin_8 rfl rfl (by decide) wf_X8_22 rfl dX8_followed_18 rfl ?_
        refine g_iload_n C 22 3 dX8_followed_21 rfl rfl ?_
        refine g_aload_n C 23 0 dX8_followed_22 rfl rfl ?_
        refine g_get (v := .int (S.1 8)) C 26 8 0 8 hin_8 rfl rfl (by decide) wf_X8_64 rfl dX8_followed_23 rfl ?_
        refine grdN h (fun hne h => ?_)
        refine g_irem C 27 dX8_followed_26 rfl hne ?_
        refine grdE h (fun hb h => ?_)
        refine g_iald (f := (S.2 4)) C 28 5 rfl hb dX8_followed_27 rfl ?_
        refine g_ior C 29 dX8_followed_28 rfl ?_
        refine g_istore_n C 30 2 [(2, .int (v2 ||| ((S.2 4) ((remI v3 (S.1 8))).toNatClampNeg))), (0, .ref o), (1, .int v1), (3, .int v3)] dX8_followed_29 rfl rfl 4 hNL (by decide) rfl ?_
        refine g_iinc C 33 (1 : Int32) 3 [(3, .int (v3 + (1 : Int32))), (2, .int (v2 ||| ((S.2 4) ((remI v3 (S.1 8))).toNatClampNeg))), (0, .ref o), (1, .int v1)] dX8_followed_30 rfl rfl 4 hNL (by decide) rfl rfl ?_
        refine g_goto C 4 dX8_followed_33 (by decide) ?_
        refine g_lv (lv' := [(0, .ref o), (1, .int v1), (2, .int (v2 ||| ((S.2 4) ((remI v3 (S.1 8))).toNatClampNeg))), (3, .int (v3 + (1 : Int32)))]) [2, 3, 1, 0] rfl ?_
        exact hk_4 _ _ h
  unfold f_X8_followed at h
  refine g_iconst C 1 (0 : Int32) dX8_followed_0 rfl rfl ?_
  refine g_istore_n C 2 2 [(2, .int (0 : Int32)), (0, .ref o), (1, .int v1)] dX8_followed_1 rfl rfl 4 hNL (by decide) rfl ?_
  refine g_iconst C 3 (0 : Int32) dX8_followed_2 rfl rfl ?_
  refine g_istore_n C 4 3 [(3, .int (0 : Int32)), (2, .int (0 : Int32)), (0, .ref o), (1, .int v1)] dX8_followed_3 rfl rfl 4 hNL (by decide) rfl ?_
  refine g_lv (lv' := [(0, .ref o), (1, .int v1), (2, .int (0 : Int32)), (3, .int (0 : Int32))]) [2, 3, 1, 0] rfl ?_
  exact J_4 _ _ _ _ h
set_option maxHeartbeats 4000000 in
set_option maxRecDepth 100000 in
theorem ct_X8_moped (L : LL) (o : Nat) (u : Nat → Nat) (S : OS) (v1 : Int32) (v2 : Int32) (x : (Int32 × OS)) (h : f_X8_moped S v1 v2 = some x) : Ct L yX8_moped cX8_moped 5 (some .int) (rmk 1 0 0 23) 0 0 [.ref o, .int v1, .int v2] (cells8 L o u S) (Pv (some (.int x.1)) (cells8 L o u x.2)) := by
  refine g_enter (lv := [(0, .ref o), (1, .int v1), (2, .int v2)]) kX8_moped rfl rfl (Nat.le_of_ble_eq_true rfl) (fun Γ C E hNL => ?_)
  have J_47 : ∀ (n : Nat) (S : OS) (v4 : Int32), Lp1 (b_X8_moped_47   S) n v4 = some x → G L Γ 0 0 (cells8 L o u S) 47 [(0, .ref o), (4, .int v4)] [] := by
    intro n S
    refine lp_ok1 (fun v4 => G L Γ 0 0 (cells8 L o u S) 47 [(0, .ref o), (4, .int v4)] []) (fun k_47 hk_47 => ?_) n
    intro v4 h
    unfold b_X8_moped_47 at h
    refine g_aload_n C 48 0 dX8_moped_47 rfl rfl ?_
    refine g_iload C 50 1 dX8_moped_48 rfl rfl ?_
    refine bnd h (fun x5 e5 h => ?_)
    refine g_callVs (w' := (cells8 L o u S)) C 53 [] [.int x5] (ct_X8_followed L o u S v4 x5 e5) kX8_followed kvX8_followed wl_X8_237 8 0 rfl rfl rfl rfl rfl rfl rfl (Nat.le_of_ble_eq_true rfl) ⟨Nat.le_of_ble_eq_true rfl, Nat.le_of_ble_eq_true rfl⟩ ⟨Nat.zero_le _, Nat.zero_le _⟩ dX8_moped_50 rfl ?_
    refine g_aload_n C 54 0 dX8_moped_53 rfl rfl ?_
    refine g_aload_n C 55 0 dX8_moped_54 rfl rfl ?_
    refine g_get (v := .int (S.1 8)) C 58 8 0 8 hin_8 rfl rfl (by decide) wf_X8_64 rfl dX8_moped_55 rfl ?_
    refine bnd h (fun x6 e6 h => ?_)
    refine g_callVs (w' := (cells8 L o u S)) C 61 [.int x5] [.int x6, .int x5] (ct_X8_followed L o u S (S.1 8) x6 e6) kX8_followed kvX8_followed wl_X8_237 8 0 rfl rfl rfl rfl rfl rfl rfl (Nat.le_of_ble_eq_true rfl) ⟨Nat.le_of_ble_eq_true rfl, Nat.le_of_ble_eq_true rfl⟩ ⟨Nat.zero_le _, Nat.zero_le _⟩ dX8_moped_58 rfl ?_
    refine g_icmp_eq C 70 64 dX8_moped_61 (by decide) rfl (fun c => ?_) (fun c => ?_)
    · have h := ifT c h
      refine g_iload C 72 1 dX8_moped_70 rfl rfl ?_
      exact g_iret (st := []) C E dX8_moped_72 (by obtain rfl := Option.some.inj h; exact ⟨rfl, rfl⟩)
    · have h := ifF c h
      refine g_iinc C 67 (1 : Int32) 1 [(4, .int (v4 + (1 : Int32))), (0, .ref o)] dX8_moped_64 rfl rfl 5 hNL (by decide) rfl rfl ?_
      refine g_goto C 47 dX8_moped_67 (by decide) ?_
      refine g_lv (lv' := [(0, .ref o), (4, .int (v4 + (1 : Int32)))]) [1, 0] rfl ?_
      exact hk_47 _ h
  have J_24 : ∀ (v1 : Int32) (v2 : Int32) (v3 : Int32) (S : OS), j_X8_moped_24   v1 v2 v3 S = some x → G L Γ 0 0 (cells8 L o u S) 24 [(0, .ref o), (1, .int v1), (2, .int v2), (3, .int v3)] [] := by
    intro v1 v2 v3 S h
    unfold j_X8_moped_24 at h
    refine g_iload_n C 25 3 dX8_moped_24 rfl rfl ?_
    refine g_if_eq C 34 28 dX8_moped_25 (by decide) rfl (fun c => ?_) (fun c => ?_)
    · have h := ifT c h
      refine g_iload_n C 35 2 dX8_moped_34 rfl rfl ?_
      refine g_if_ne C 44 38 dX8_moped_35 (by decide) rfl (fun c => ?_) (fun c => ?_)
      · have h := ifF c h
        refine g_iconst C 45 (0 : Int32) dX8_moped_44 rfl rfl ?_
        refine g_istore C 47 4 [(4, .int (0 : Int32)), (0, .ref o), (1, .int v1), (2, .int v2), (3, .int v3)] dX8_moped_45 rfl 5 hNL (by decide) rfl ?_
        refine g_lv (lv' := [(0, .ref o), (4, .int (0 : Int32))]) [1, 0] rfl ?_
        exact J_47 _ _ _ h
      · have h := ifT c h
        refine g_aload_n C 39 0 dX8_moped_38 rfl rfl ?_
        refine g_iload_n C 40 1 dX8_moped_39 rfl rfl ?_
        refine bnd h (fun x3 e3 h => ?_)
        refine g_callVs (w' := (cells8 L o u S)) C 43 [] [.int x3] (ct_X8_followed L o u S v1 x3 e3) kX8_followed kvX8_followed wl_X8_237 8 0 rfl rfl rfl rfl rfl rfl rfl (Nat.le_of_ble_eq_true rfl) ⟨Nat.le_of_ble_eq_true rfl, Nat.le_of_ble_eq_true rfl⟩ ⟨Nat.zero_le _, Nat.zero_le _⟩ dX8_moped_40 rfl ?_
        exact g_iret (st := []) C E dX8_moped_43 (by obtain rfl := Option.some.inj h; exact ⟨rfl, rfl⟩)
    · have h := ifF c h
      refine g_aload_n C 29 0 dX8_moped_28 rfl rfl ?_
      refine g_iload_n C 30 3 dX8_moped_29 rfl rfl ?_
      refine bnd h (fun x4 e4 h => ?_)
      refine g_callVs (w' := (cells8 L o u x4.2)) C 33 [] [.int x4.1] (ct_X8_no L o u S v3 x4 e4) kX8_no kvX8_no wl_X8_77 8 0 rfl rfl rfl rfl rfl rfl rfl (Nat.le_of_ble_eq_true rfl) ⟨Nat.le_of_ble_eq_true rfl, Nat.le_of_ble_eq_true rfl⟩ ⟨Nat.zero_le _, Nat.zero_le _⟩ dX8_moped_30 rfl ?_
      exact g_iret (st := []) C E dX8_moped_33 (by obtain rfl := Option.some.inj h; exact ⟨rfl, rfl⟩)
  unfold f_X8_moped at h
  refine g_iload_n C 1 1 dX8_moped_0 rfl rfl ?_
  refine g_iconst C 2 (0 : Int32) dX8_moped_1 rfl rfl ?_
  refine g_bipush C 4 (60 : Int32) dX8_moped_2 rfl rfl ?_
  refine bnd h (fun x1 e1 h => ?_)
  refine g_callSr C 7 [] [.int x1] (ct_X8_bound L v1 (0 : Int32) (60 : Int32) x1 e1) kX8_bound kvX8_bound wl_X8_70 [] rfl rfl rfl rfl rfl (Nat.le_of_ble_eq_true rfl) ⟨Nat.le_of_ble_eq_true rfl, Nat.le_of_ble_eq_true rfl⟩ ⟨Nat.zero_le _, Nat.zero_le _⟩ dX8_moped_4 rfl ?_
  refine g_istore_n C 8 3 [(3, .int x1), (0, .ref o), (1, .int v1), (2, .int v2)] dX8_moped_7 rfl rfl 5 hNL (by decide) rfl ?_
  refine g_iload_n C 9 0 dX8_moped_8 rfl rfl ?_
  refine g_if_ne C 24 12 dX8_moped_9 (by decide) rfl (fun c => ?_) (fun c => ?_)
  · have h := ifF c h
    refine g_lv (lv' := [(0, .ref o), (1, .int v1), (2, .int v2), (3, .int x1)]) [1, 2, 3, 0] rfl ?_
    exact J_24 _ _ _ _ h
  · have h := ifT c h
    refine g_iload_n C 13 3 dX8_moped_12 rfl rfl ?_
    refine g_iconst C 14 (0 : Int32) dX8_moped_13 rfl rfl ?_
    refine g_iconst C 15 (1 : Int32) dX8_moped_14 rfl rfl ?_
    refine bnd h (fun x2 e2 h => ?_)
    refine g_callSr C 18 [] [.int x2] (ct_X8_isIn L v2 (0 : Int32) (1 : Int32) x2 e2) kX8_isIn kvX8_isIn wl_X8_88 [] rfl rfl rfl rfl rfl (Nat.le_of_ble_eq_true rfl) ⟨Nat.le_of_ble_eq_true rfl, Nat.le_of_ble_eq_true rfl⟩ ⟨Nat.zero_le _, Nat.zero_le _⟩ dX8_moped_15 rfl ?_
    refine g_if_ne C 24 21 dX8_moped_18 (by decide) rfl (fun c => ?_) (fun c => ?_)
    · have h := ifF c h
      refine g_lv (lv' := [(0, .ref o), (1, .int v1), (2, .int v2), (3, .int x1)]) [1, 2, 3, 0] rfl ?_
      exact J_24 _ _ _ _ h
    · have h := ifT c h
      refine g_bipush C 23 (-2 : Int32) dX8_moped_21 rfl rfl ?_
      refine g_istore_n C 24 3 [(3, .int (-2 : Int32)), (0, .ref o), (1, .int v1), (2, .int v2)] dX8_moped_23 rfl rfl 5 hNL (by decide) rfl ?_
      refine g_lv (lv' := [(0, .ref o), (1, .int v1), (2, .int v2), (3, .int (-2 : Int32))]) [1, 2, 3, 0] rfl ?_
      exact J_24 _ _ _ _ h
set_option maxHeartbeats 4000000 in
set_option maxRecDepth 100000 in
theorem ct_X8_made (L : LL) (o : Nat) (u : Nat → Nat) (S : OS) (v1 : Int32) (v2 : Int32) (v3 : Int32) (x : (Int32 × OS)) (h : f_X8_made S v1 v2 v3 = some x) : Ct L yX8_made cX8_made 9 (some .int) (rmk 3 0 0 70) 0 0 [.ref o, .int v1, .int v2, .int v3] (cells8 L o u S) (Pv (some (.int x.1)) (cells8 L o u x.2)) := by
  refine g_enter (lv := [(0, .ref o), (1, .int v1), (2, .int v2), (3, .int v3)]) kX8_made rfl rfl (Nat.le_of_ble_eq_true rfl) (fun Γ C E hNL => ?_)
  have J_68 : ∀ (n : Nat) (v1 : Int32) (v2 : Int32) (v3 : Int32) (S : OS) (v5 : Int32) (v6 : Int32) (v7 : Int32), Lp3 (b_X8_made_68   v1 v2 v3 S) n v5 v6 v7 = some x → G L Γ 0 0 (cells8 L o u S) 68 [(0, .ref o), (1, .int v1), (2, .int v2), (3, .int v3), (5, .int v5), (6, .int v6), (7, .int v7)] [] := by
    intro n v1 v2 v3 S
    refine lp_ok3 (fun v5 v6 v7 => G L Γ 0 0 (cells8 L o u S) 68 [(0, .ref o), (1, .int v1), (2, .int v2), (3, .int v3), (5, .int v5), (6, .int v6), (7, .int v7)] []) (fun k_68 hk_68 => ?_) n
    have J_136 : ∀ (v5 : Int32) (v6 : Int32) (v7 : Int32), j_X8_made_136  k_68 v1 v2 v3 v5 v6 v7 S = some x → G L Γ 0 0 (cells8 L o u S) 136 [(0, .ref o), (1, .int v1), (2, .int v2), (3, .int v3), (5, .int v5), (6, .int v6), (7, .int v7)] [] := by
      intro v5 v6 v7 h
      unfold j_X8_made_136 at h
      refine g_iinc C 139 (1 : Int32) 6 [(7, .int (v7 + (1 : Int32))), (0, .ref o), (1, .int v1), (2, .int v2), (3, .int v3), (5, .int v5), (6, .int v6)] dX8_made_136 rfl rfl 9 hNL (by decide) rfl rfl ?_
      refine g_goto C 68 dX8_made_139 (by decide) ?_
      refine g_lv (lv' := [(0, .ref o), (1, .int v1), (2, .int v2), (3, .int v3), (5, .int v5), (6, .int v6), (7, .int (v7 + (1 : Int32)))]) [1, 2, 3, 4, 5, 6, 0] rfl ?_
      exact hk_68 _ _ _ h
    intro v5 v6 v7 h
    unfold b_X8_made_68 at h
    refine g_iload C 70 6 dX8_made_68 rfl rfl ?_
    refine g_iconst C 71 (1 : Int32) dX8_made_70 rfl rfl ?_
    refine g_aload_n C 72 0 dX8_made_71 rfl rfl ?_
    refine g_get (v := .int (S.1 7)) C 75 8 0 7 hin_8 rfl rfl (by decide) wf_X8_61 rfl dX8_made_72 rfl ?_
    refine g_ishl C 76 dX8_made_75 rfl ?_
    refine g_icmp_ge C 142 79 dX8_made_76 (by decide) rfl (fun c => ?_) (fun c => ?_)
    · have h := ifT c h
      refine g_iload C 144 4 dX8_made_142 rfl rfl ?_
      exact g_iret (st := []) C E dX8_made_144 (by obtain rfl := Option.some.inj h; exact ⟨rfl, rfl⟩)
    · have h := ifF c h
      refine g_aload_n C 80 0 dX8_made_79 rfl rfl ?_
      refine g_iload C 82 6 dX8_made_80 rfl rfl ?_
      refine g_aload_n C 83 0 dX8_made_82 rfl rfl ?_
      refine g_get (v := .int (S.1 10)) C 86 8 0 10 hin_8 rfl rfl (by decide) wf_X8_52 rfl dX8_made_83 rfl ?_
      refine bnd h (fun x2 e2 h => ?_)
      refine g_callVs (w' := (cells8 L o u S)) C 89 [] [.int x2] (ct_X8_hardOn L o u S v7 (S.1 10) x2 e2) kX8_hardOn kvX8_hardOn wl_X8_197 8 0 rfl rfl rfl rfl rfl rfl rfl (Nat.le_of_ble_eq_true rfl) ⟨Nat.le_of_ble_eq_true rfl, Nat.le_of_ble_eq_true rfl⟩ ⟨Nat.zero_le _, Nat.zero_le _⟩ dX8_made_86 rfl ?_
      refine g_iload_n C 90 3 dX8_made_89 rfl rfl ?_
      refine bnd h (fun x3 e3 h => ?_)
      refine g_callSr C 93 [] [.int x3] (ct_X8_apart L x2 v3 x3 e3) kX8_apart kvX8_apart wl_X8_231 [] rfl rfl rfl rfl rfl (Nat.le_of_ble_eq_true rfl) ⟨Nat.le_of_ble_eq_true rfl, Nat.le_of_ble_eq_true rfl⟩ ⟨Nat.zero_le _, Nat.zero_le _⟩ dX8_made_90 rfl ?_
      refine g_istore C 95 8 [(8, .int x3), (0, .ref o), (1, .int v1), (2, .int v2), (3, .int v3), (5, .int v5), (6, .int v6), (7, .int v7)] dX8_made_93 rfl 9 hNL (by decide) rfl ?_
      refine g_iload_n C 96 2 dX8_made_95 rfl rfl ?_
      refine g_aload_n C 97 1 dX8_made_96 rfl rfl ?_
      refine g_iload C 99 7 dX8_made_97 rfl rfl ?_
      refine bnd h (fun x4 e4 h => ?_)
      refine g_callVs (w' := (cells8 L o u S)) C 102 [.int v1] [.int x4, .int v1] (ct_X8_kindsOf L o u S v7 x4 e4) kX8_kindsOf kvX8_kindsOf wl_X8_200 8 0 rfl rfl rfl rfl rfl rfl rfl (Nat.le_of_ble_eq_true rfl) ⟨Nat.le_of_ble_eq_true rfl, Nat.le_of_ble_eq_true rfl⟩ ⟨Nat.zero_le _, Nat.zero_le _⟩ dX8_made_99 rfl ?_
      refine g_iconst C 103 (-1 : Int32) dX8_made_102 rfl rfl ?_
      refine g_ixor C 104 dX8_made_103 rfl ?_
      refine g_iand C 105 dX8_made_104 rfl ?_
      refine g_if_ne C 136 108 dX8_made_105 (by decide) rfl (fun c => ?_) (fun c => ?_)
      · have h := ifF c h
        refine g_lv (lv' := [(0, .ref o), (1, .int v1), (2, .int v2), (3, .int v3), (5, .int v5), (6, .int v6), (7, .int v7)]) [1, 2, 3, 4, 5, 6, 7] rfl ?_
        exact J_136 _ _ _ h
      · have h := ifT c h
        refine g_aload_n C 109 1 dX8_made_108 rfl rfl ?_
        refine g_iload C 111 7 dX8_made_109 rfl rfl ?_
        refine bnd h (fun x5 e5 h => ?_)
        refine g_callVs (w' := (cells8 L o u S)) C 114 [] [.int x5] (ct_X8_minutesOf L o u S v7 x5 e5) kX8_minutesOf kvX8_minutesOf wl_X8_194 8 0 rfl rfl rfl rfl rfl rfl rfl (Nat.le_of_ble_eq_true rfl) ⟨Nat.le_of_ble_eq_true rfl, Nat.le_of_ble_eq_true rfl⟩ ⟨Nat.zero_le _, Nat.zero_le _⟩ dX8_made_111 rfl ?_
        refine g_iload_n C 115 3 dX8_made_114 rfl rfl ?_
        refine g_icmp_gt C 136 118 dX8_made_115 (by decide) rfl (fun c => ?_) (fun c => ?_)
        · have h := ifT c h
          refine g_lv (lv' := [(0, .ref o), (1, .int v1), (2, .int v2), (3, .int v3), (5, .int v5), (6, .int v6), (7, .int v7)]) [1, 2, 3, 4, 5, 6, 7] rfl ?_
          exact J_136 _ _ _ h
        · have h := ifF c h
          refine g_iload C 120 0 dX8_made_118 rfl rfl ?_
          refine g_iload C 122 6 dX8_made_120 rfl rfl ?_
          refine g_icmp_lt C 128 125 dX8_made_122 (by decide) rfl (fun c => ?_) (fun c => ?_)
          · have h := ifT c h
            refine g_iload C 130 7 dX8_made_128 rfl rfl ?_
            refine g_istore C 132 5 [(5, .int v7), (8, .int x3), (0, .ref o), (1, .int v1), (2, .int v2), (3, .int v3), (6, .int v6), (7, .int v7)] dX8_made_130 rfl 9 hNL (by decide) rfl ?_
            refine g_iload C 134 1 dX8_made_132 rfl rfl ?_
            refine g_istore C 136 6 [(6, .int x3), (5, .int v7), (8, .int x3), (0, .ref o), (1, .int v1), (2, .int v2), (3, .int v3), (7, .int v7)] dX8_made_134 rfl 9 hNL (by decide) rfl ?_
            refine g_lv (lv' := [(0, .ref o), (1, .int v1), (2, .int v2), (3, .int v3), (5, .int v7), (6, .int x3), (7, .int v7)]) [3, 4, 5, 6, 1, 0, 7] rfl ?_
            exact J_136 _ _ _ h
          · have h := ifF c h
            refine g_goto C 136 dX8_made_125 (by decide) ?_
            refine g_lv (lv' := [(0, .ref o), (1, .int v1), (2, .int v2), (3, .int v3), (5, .int v5), (6, .int v6), (7, .int v7)]) [1, 2, 3, 4, 5, 6, 7] rfl ?_
            exact J_136 _ _ _ h
  have J_42 : ∀ (v1 : Int32) (v2 : Int32) (v3 : Int32) (s0 : Int32) (S : OS), j_X8_made_42   v1 v2 v3 s0 S = some x → G L Γ 0 0 (cells8 L o u S) 42 [(0, .ref o), (1, .int v1), (2, .int v2), (3, .int v3)] [.int s0] := by
    intro v1 v2 v3 s0 S h
    unfold j_X8_made_42 at h
    refine g_istore C 44 4 [(4, .int s0), (0, .ref o), (1, .int v1), (2, .int v2), (3, .int v3)] dX8_made_42 rfl 9 hNL (by decide) rfl ?_
    refine g_iload C 46 0 dX8_made_44 rfl rfl ?_
    refine g_if_eq C 56 49 dX8_made_46 (by decide) rfl (fun c => ?_) (fun c => ?_)
    · have h := ifT c h
      refine g_bipush C 58 (-9 : Int32) dX8_made_56 rfl rfl ?_
      refine g_istore C 60 5 [(5, .int (-9 : Int32)), (4, .int s0), (0, .ref o), (1, .int v1), (2, .int v2), (3, .int v3)] dX8_made_58 rfl 9 hNL (by decide) rfl ?_
      refine g_sipush C 63 (1000 : Int32) dX8_made_60 rfl rfl ?_
      refine g_istore C 65 6 [(6, .int (1000 : Int32)), (5, .int (-9 : Int32)), (4, .int s0), (0, .ref o), (1, .int v1), (2, .int v2), (3, .int v3)] dX8_made_63 rfl 9 hNL (by decide) rfl ?_
      refine g_iconst C 66 (1 : Int32) dX8_made_65 rfl rfl ?_
      refine g_istore C 68 7 [(7, .int (1 : Int32)), (6, .int (1000 : Int32)), (5, .int (-9 : Int32)), (4, .int s0), (0, .ref o), (1, .int v1), (2, .int v2), (3, .int v3)] dX8_made_66 rfl 9 hNL (by decide) rfl ?_
      refine g_lv (lv' := [(0, .ref o), (1, .int v1), (2, .int v2), (3, .int v3), (5, .int (-9 : Int32)), (6, .int (1000 : Int32)), (7, .int (1 : Int32))]) [4, 5, 6, 7, 2, 1, 0] rfl ?_
      exact J_68 _ _ _ _ _ _ _ _ h
    · have h := ifF c h
      refine g_aload_n C 50 1 dX8_made_49 rfl rfl ?_
      refine g_iload C 52 0 dX8_made_50 rfl rfl ?_
      refine bnd h (fun x1 e1 h => ?_)
      refine g_callVs (w' := (cells8 L o u x1.2)) C 55 [] [.int x1.1] (ct_X8_no L o u S s0 x1 e1) kX8_no kvX8_no wl_X8_77 8 0 rfl rfl rfl rfl rfl rfl rfl (Nat.le_of_ble_eq_true rfl) ⟨Nat.le_of_ble_eq_true rfl, Nat.le_of_ble_eq_true rfl⟩ ⟨Nat.zero_le _, Nat.zero_le _⟩ dX8_made_52 rfl ?_
      exact g_iret (st := []) C E dX8_made_55 (by obtain rfl := Option.some.inj h; exact ⟨rfl, rfl⟩)
  have J_13 : ∀ (v1 : Int32) (v2 : Int32) (v3 : Int32) (S : OS), j_X8_made_13   v1 v2 v3 S = some x → G L Γ 0 0 (cells8 L o u S) 13 [(0, .ref o), (1, .int v1), (2, .int v2), (3, .int v3)] [] := by
    intro v1 v2 v3 S h
    unfold j_X8_made_13 at h
    refine g_bipush C 15 (-4 : Int32) dX8_made_13 rfl rfl ?_
    refine g_goto C 42 dX8_made_15 (by decide) ?_
    exact J_42 _ _ _ _ _ h
  have J_36 : ∀ (v1 : Int32) (v2 : Int32) (v3 : Int32) (S : OS), j_X8_made_36   v1 v2 v3 S = some x → G L Γ 0 0 (cells8 L o u S) 36 [(0, .ref o), (1, .int v1), (2, .int v2), (3, .int v3)] [] := by
    intro v1 v2 v3 S h
    unfold j_X8_made_36 at h
    refine g_bipush C 38 (-6 : Int32) dX8_made_36 rfl rfl ?_
    refine g_goto C 42 dX8_made_38 (by decide) ?_
    exact J_42 _ _ _ _ _ h
  unfold f_X8_made at h
  refine g_iload_n C 1 1 dX8_made_0 rfl rfl ?_
  refine g_if_lt C 13 4 dX8_made_1 (by decide) rfl (fun c => ?_) (fun c => ?_)
  · have h := ifT c h
    exact J_13 _ _ _ _ h
  · have h := ifF c h
    refine g_iload_n C 5 2 dX8_made_4 rfl rfl ?_
    refine g_iconst C 6 (1 : Int32) dX8_made_5 rfl rfl ?_
    refine g_icmp_lt C 13 9 dX8_made_6 (by decide) rfl (fun c => ?_) (fun c => ?_)
    · have h := ifT c h
      exact J_13 _ _ _ _ h
    · have h := ifF c h
      refine g_iload_n C 10 3 dX8_made_9 rfl rfl ?_
      refine g_if_ge C 18 13 dX8_made_10 (by decide) rfl (fun c => ?_) (fun c => ?_)
      · have h := ifT c h
        refine g_iload_n C 19 1 dX8_made_18 rfl rfl ?_
        refine g_bipush C 21 (63 : Int32) dX8_made_19 rfl rfl ?_
        refine g_icmp_gt C 36 24 dX8_made_21 (by decide) rfl (fun c => ?_) (fun c => ?_)
        · have h := ifT c h
          exact J_36 _ _ _ _ h
        · have h := ifF c h
          refine g_iload_n C 25 2 dX8_made_24 rfl rfl ?_
          refine g_bipush C 27 (72 : Int32) dX8_made_25 rfl rfl ?_
          refine g_icmp_gt C 36 30 dX8_made_27 (by decide) rfl (fun c => ?_) (fun c => ?_)
          · have h := ifT c h
            exact J_36 _ _ _ _ h
          · have h := ifF c h
            refine g_iload_n C 31 3 dX8_made_30 rfl rfl ?_
            refine g_bipush C 33 (99 : Int32) dX8_made_31 rfl rfl ?_
            refine g_icmp_le C 41 36 dX8_made_33 (by decide) rfl (fun c => ?_) (fun c => ?_)
            · have h := ifT c h
              refine g_iconst C 42 (0 : Int32) dX8_made_41 rfl rfl ?_
              exact J_42 _ _ _ _ _ h
            · have h := ifF c h
              exact J_36 _ _ _ _ h
      · have h := ifF c h
        exact J_13 _ _ _ _ h
set_option maxHeartbeats 4000000 in
set_option maxRecDepth 100000 in
theorem ct_X8_unlike (L : LL) (o : Nat) (u : Nat → Nat) (S : OS) (x : Int32) (h : f_X8_unlike S = some x) : Ct L yX8_unlike cX8_unlike 7 (some .int) (rmk 2 0 0 44) 0 0 [.ref o] (cells8 L o u S) (Pv (some (.int x)) (cells8 L o u S)) := by
  refine g_enter (lv := [(0, .ref o)]) kX8_unlike rfl rfl (Nat.le_of_ble_eq_true rfl) (fun Γ C E hNL => ?_)
  have J_22 : ∀ (n : Nat) (v1 : Int32) (v2 : Int32) (v3 : Int32) (v4 : Int32), Lp3 (b_X8_unlike_22 S  v1) n v2 v3 v4 = some x → G L Γ 0 0 (cells8 L o u S) 22 [(0, .ref o), (1, .int v1), (2, .int v2), (3, .int v3), (4, .int v4)] [] := by
    intro n v1
    refine lp_ok3 (fun v2 v3 v4 => G L Γ 0 0 (cells8 L o u S) 22 [(0, .ref o), (1, .int v1), (2, .int v2), (3, .int v3), (4, .int v4)] []) (fun k_22 hk_22 => ?_) n
    have J_116 : ∀ (v2 : Int32) (v3 : Int32) (v4 : Int32), j_X8_unlike_116 S k_22 v1 v2 v3 v4 = some x → G L Γ 0 0 (cells8 L o u S) 116 [(0, .ref o), (1, .int v1), (2, .int v2), (3, .int v3), (4, .int v4)] [] := by
      intro v2 v3 v4 h
      unfold j_X8_unlike_116 at h
      refine g_iinc C 119 (1 : Int32) 4 [(4, .int (v4 + (1 : Int32))), (0, .ref o), (1, .int v1), (2, .int v2), (3, .int v3)] dX8_unlike_116 rfl rfl 7 hNL (by decide) rfl rfl ?_
      refine g_goto C 22 dX8_unlike_119 (by decide) ?_
      refine g_lv (lv' := [(0, .ref o), (1, .int v1), (2, .int v2), (3, .int v3), (4, .int (v4 + (1 : Int32)))]) [1, 2, 3, 4, 0] rfl ?_
      exact hk_22 _ _ _ h
    have J_37 : ∀ (n : Nat) (v4 : Int32) (v2 : Int32) (v3 : Int32) (v5 : Int32), Lp3 (b_X8_unlike_37 S k_22 v1 v4) n v2 v3 v5 = some x → G L Γ 0 0 (cells8 L o u S) 37 [(0, .ref o), (1, .int v1), (2, .int v2), (3, .int v3), (4, .int v4), (5, .int v5)] [] := by
      intro n v4
      refine lp_ok3 (fun v2 v3 v5 => G L Γ 0 0 (cells8 L o u S) 37 [(0, .ref o), (1, .int v1), (2, .int v2), (3, .int v3), (4, .int v4), (5, .int v5)] []) (fun k_37 hk_37 => ?_) n
      have J_110 : ∀ (v2 : Int32) (v3 : Int32) (v5 : Int32), j_X8_unlike_110 S k_22 k_37 v1 v2 v3 v4 v5 = some x → G L Γ 0 0 (cells8 L o u S) 110 [(0, .ref o), (1, .int v1), (2, .int v2), (3, .int v3), (4, .int v4), (5, .int v5)] [] := by
        intro v2 v3 v5 h
        unfold j_X8_unlike_110 at h
        refine g_iinc C 113 (1 : Int32) 5 [(5, .int (v5 + (1 : Int32))), (0, .ref o), (1, .int v1), (2, .int v2), (3, .int v3), (4, .int v4)] dX8_unlike_110 rfl rfl 7 hNL (by decide) rfl rfl ?_
        refine g_goto C 37 dX8_unlike_113 (by decide) ?_
        refine g_lv (lv' := [(0, .ref o), (1, .int v1), (2, .int v2), (3, .int v3), (4, .int v4), (5, .int (v5 + (1 : Int32)))]) [1, 2, 3, 4, 5, 0] rfl ?_
        exact hk_37 _ _ _ h
      intro v2 v3 v5 h
      unfold b_X8_unlike_37 at h
      refine g_iload C 39 5 dX8_unlike_37 rfl rfl ?_
      refine g_aload_n C 40 0 dX8_unlike_39 rfl rfl ?_
      refine g_get (v := .int (S.1 8)) C 43 8 0 8 hin_8 rfl rfl (by decide) wf_X8_64 rfl dX8_unlike_40 rfl ?_
      refine g_icmp_ge C 116 46 dX8_unlike_43 (by decide) rfl (fun c => ?_) (fun c => ?_)
      · have h := ifT c h
        refine g_lv (lv' := [(0, .ref o), (1, .int v1), (2, .int v2), (3, .int v3), (4, .int v4)]) [0, 1, 2, 3, 4] rfl ?_
        exact J_116 _ _ _ h
      · have h := ifF c h
        refine g_aload_n C 47 0 dX8_unlike_46 rfl rfl ?_
        refine g_get (v := .ref (u 4)) C 50 8 0 4 hin_8 rfl rfl (by decide) wf_X8_22 rfl dX8_unlike_47 rfl ?_
        refine g_iload C 52 4 dX8_unlike_50 rfl rfl ?_
        refine grdE h (fun hb h => ?_)
        refine g_iald (f := (S.2 4)) C 53 5 rfl hb dX8_unlike_52 rfl ?_
        refine g_aload_n C 54 0 dX8_unlike_53 rfl rfl ?_
        refine g_get (v := .ref (u 4)) C 57 8 0 4 hin_8 rfl rfl (by decide) wf_X8_22 rfl dX8_unlike_54 rfl ?_
        refine g_iload C 59 5 dX8_unlike_57 rfl rfl ?_
        refine grdE h (fun hb h => ?_)
        refine g_iald (f := (S.2 4)) C 60 5 rfl hb dX8_unlike_59 rfl ?_
        refine g_iand C 61 dX8_unlike_60 rfl ?_
        refine bnd h (fun x2 e2 h => ?_)
        refine g_callSr C 64 [] [.int x2] (ct_X8_bits L (((S.2 4) (v4).toNatClampNeg) &&& ((S.2 4) (v5).toNatClampNeg)) x2 e2) kX8_bits kvX8_bits wl_X8_212 [] rfl rfl rfl rfl rfl (Nat.le_of_ble_eq_true rfl) ⟨Nat.le_of_ble_eq_true rfl, Nat.le_of_ble_eq_true rfl⟩ ⟨Nat.zero_le _, Nat.zero_le _⟩ dX8_unlike_61 rfl ?_
        refine g_istore C 66 6 [(6, .int x2), (0, .ref o), (1, .int v1), (2, .int v2), (3, .int v3), (4, .int v4), (5, .int v5)] dX8_unlike_64 rfl 7 hNL (by decide) rfl ?_
        refine g_aload_n C 67 1 dX8_unlike_66 rfl rfl ?_
        refine g_aload_n C 68 1 dX8_unlike_67 rfl rfl ?_
        refine g_get (v := .ref (u 4)) C 71 8 0 4 hin_8 rfl rfl (by decide) wf_X8_22 rfl dX8_unlike_68 rfl ?_
        refine g_iload C 73 5 dX8_unlike_71 rfl rfl ?_
        refine grdE h (fun hb h => ?_)
        refine g_iald (f := (S.2 4)) C 74 5 rfl hb dX8_unlike_73 rfl ?_
        refine g_aload_n C 75 1 dX8_unlike_74 rfl rfl ?_
        refine g_get (v := .ref (u 4)) C 78 8 0 4 hin_8 rfl rfl (by decide) wf_X8_22 rfl dX8_unlike_75 rfl ?_
        refine g_iload C 80 6 dX8_unlike_78 rfl rfl ?_
        refine grdE h (fun hb h => ?_)
        refine g_iald (f := (S.2 4)) C 81 5 rfl hb dX8_unlike_80 rfl ?_
        refine g_ior C 82 dX8_unlike_81 rfl ?_
        refine bnd h (fun x3 e3 h => ?_)
        refine g_callVs (w' := (cells8 L o u S)) C 85 [] [.int x3] (ct_X8_kindsOf L o u S (((S.2 4) (v4).toNatClampNeg) ||| ((S.2 4) (v5).toNatClampNeg)) x3 e3) kX8_kindsOf kvX8_kindsOf wl_X8_200 8 0 rfl rfl rfl rfl rfl rfl rfl (Nat.le_of_ble_eq_true rfl) ⟨Nat.le_of_ble_eq_true rfl, Nat.le_of_ble_eq_true rfl⟩ ⟨Nat.zero_le _, Nat.zero_le _⟩ dX8_unlike_82 rfl ?_
        refine g_iload_n C 86 2 dX8_unlike_85 rfl rfl ?_
        refine g_icmp_ne C 110 89 dX8_unlike_86 (by decide) rfl (fun c => ?_) (fun c => ?_)
        · have h := ifF c h
          refine g_lv (lv' := [(0, .ref o), (1, .int v1), (2, .int v2), (3, .int v3), (4, .int v4), (5, .int v5)]) [1, 2, 3, 4, 5, 6] rfl ?_
          exact J_110 _ _ _ h
        · have h := ifT c h
          refine g_iload C 91 0 dX8_unlike_89 rfl rfl ?_
          refine g_iload_n C 92 4 dX8_unlike_91 rfl rfl ?_
          refine g_icmp_lt C 98 95 dX8_unlike_92 (by decide) rfl (fun c => ?_) (fun c => ?_)
          · have h := ifT c h
            refine g_bipush C 100 (10 : Int32) dX8_unlike_98 rfl rfl ?_
            refine g_iload C 102 5 dX8_unlike_100 rfl rfl ?_
            refine g_imul C 103 dX8_unlike_102 rfl ?_
            refine g_iload C 105 6 dX8_unlike_103 rfl rfl ?_
            refine g_iadd C 106 dX8_unlike_105 rfl ?_
            refine g_istore_n C 107 2 [(2, .int (((10 : Int32) * v4) + v5)), (6, .int x2), (0, .ref o), (1, .int v1), (3, .int v3), (4, .int v4), (5, .int v5)] dX8_unlike_106 rfl rfl 7 hNL (by decide) rfl ?_
            refine g_iload C 109 1 dX8_unlike_107 rfl rfl ?_
            refine g_istore_n C 110 3 [(3, .int x2), (2, .int (((10 : Int32) * v4) + v5)), (6, .int x2), (0, .ref o), (1, .int v1), (4, .int v4), (5, .int v5)] dX8_unlike_109 rfl rfl 7 hNL (by decide) rfl ?_
            refine g_lv (lv' := [(0, .ref o), (1, .int v1), (2, .int (((10 : Int32) * v4) + v5)), (3, .int x2), (4, .int v4), (5, .int v5)]) [3, 4, 1, 0, 5, 6] rfl ?_
            exact J_110 _ _ _ h
          · have h := ifF c h
            refine g_goto C 110 dX8_unlike_95 (by decide) ?_
            refine g_lv (lv' := [(0, .ref o), (1, .int v1), (2, .int v2), (3, .int v3), (4, .int v4), (5, .int v5)]) [1, 2, 3, 4, 5, 6] rfl ?_
            exact J_110 _ _ _ h
    intro v2 v3 v4 h
    unfold b_X8_unlike_22 at h
    refine g_iload C 24 4 dX8_unlike_22 rfl rfl ?_
    refine g_aload_n C 25 0 dX8_unlike_24 rfl rfl ?_
    refine g_get (v := .int (S.1 8)) C 28 8 0 8 hin_8 rfl rfl (by decide) wf_X8_64 rfl dX8_unlike_25 rfl ?_
    refine g_icmp_ge C 122 31 dX8_unlike_28 (by decide) rfl (fun c => ?_) (fun c => ?_)
    · have h := ifT c h
      refine g_iload_n C 123 2 dX8_unlike_122 rfl rfl ?_
      exact g_iret (st := []) C E dX8_unlike_123 (by obtain rfl := Option.some.inj h; exact ⟨rfl, rfl⟩)
    · have h := ifF c h
      refine g_iload C 33 4 dX8_unlike_31 rfl rfl ?_
      refine g_iconst C 34 (1 : Int32) dX8_unlike_33 rfl rfl ?_
      refine g_iadd C 35 dX8_unlike_34 rfl ?_
      refine g_istore C 37 5 [(5, .int (v4 + (1 : Int32))), (0, .ref o), (1, .int v1), (2, .int v2), (3, .int v3), (4, .int v4)] dX8_unlike_35 rfl 7 hNL (by decide) rfl ?_
      refine g_lv (lv' := [(0, .ref o), (1, .int v1), (2, .int v2), (3, .int v3), (4, .int v4), (5, .int (v4 + (1 : Int32)))]) [1, 2, 3, 4, 5, 0] rfl ?_
      exact J_37 _ _ _ _ _ h
  unfold f_X8_unlike at h
  refine g_aload_n C 1 0 dX8_unlike_0 rfl rfl ?_
  refine g_iconst C 2 (1 : Int32) dX8_unlike_1 rfl rfl ?_
  refine g_aload_n C 3 0 dX8_unlike_2 rfl rfl ?_
  refine g_get (v := .int (S.1 7)) C 6 8 0 7 hin_8 rfl rfl (by decide) wf_X8_61 rfl dX8_unlike_3 rfl ?_
  refine g_ishl C 7 dX8_unlike_6 rfl ?_
  refine g_iconst C 8 (1 : Int32) dX8_unlike_7 rfl rfl ?_
  refine g_isub C 9 dX8_unlike_8 rfl ?_
  refine bnd h (fun x1 e1 h => ?_)
  refine g_callVs (w' := (cells8 L o u S)) C 12 [] [.int x1] (ct_X8_kindsOf L o u S (((1 : Int32) <<< ((S.1 7) &&& 31)) - (1 : Int32)) x1 e1) kX8_kindsOf kvX8_kindsOf wl_X8_200 8 0 rfl rfl rfl rfl rfl rfl rfl (Nat.le_of_ble_eq_true rfl) ⟨Nat.le_of_ble_eq_true rfl, Nat.le_of_ble_eq_true rfl⟩ ⟨Nat.zero_le _, Nat.zero_le _⟩ dX8_unlike_9 rfl ?_
  refine g_istore_n C 13 1 [(1, .int x1), (0, .ref o)] dX8_unlike_12 rfl rfl 7 hNL (by decide) rfl ?_
  refine g_bipush C 15 (-9 : Int32) dX8_unlike_13 rfl rfl ?_
  refine g_istore_n C 16 2 [(2, .int (-9 : Int32)), (1, .int x1), (0, .ref o)] dX8_unlike_15 rfl rfl 7 hNL (by decide) rfl ?_
  refine g_bipush C 18 (9 : Int32) dX8_unlike_16 rfl rfl ?_
  refine g_istore_n C 19 3 [(3, .int (9 : Int32)), (2, .int (-9 : Int32)), (1, .int x1), (0, .ref o)] dX8_unlike_18 rfl rfl 7 hNL (by decide) rfl ?_
  refine g_iconst C 20 (0 : Int32) dX8_unlike_19 rfl rfl ?_
  refine g_istore C 22 4 [(4, .int (0 : Int32)), (3, .int (9 : Int32)), (2, .int (-9 : Int32)), (1, .int x1), (0, .ref o)] dX8_unlike_20 rfl 7 hNL (by decide) rfl ?_
  refine g_lv (lv' := [(0, .ref o), (1, .int x1), (2, .int (-9 : Int32)), (3, .int (9 : Int32)), (4, .int (0 : Int32))]) [4, 3, 2, 1, 0] rfl ?_
  exact J_22 _ _ _ _ _ h
set_option maxHeartbeats 4000000 in
set_option maxRecDepth 100000 in
theorem ct_X8_isSo (L : LL) (o : Nat) (u : Nat → Nat) (S : OS) (v1 : Int32) (v2 : Int32) (x : Int32) (h : f_X8_isSo S v1 v2 = some x) : Ct L yX8_isSo cX8_isSo 4 (some .boolean) (rmk 6 0 0 142) 0 0 [.ref o, .int v1, .int v2] (cells8 L o u S) (Pv (some (.int x)) (cells8 L o u S)) := by
  refine g_enter (lv := [(0, .ref o), (1, .int v1), (2, .int v2)]) kX8_isSo rfl rfl (Nat.le_of_ble_eq_true rfl) (fun Γ C E hNL => ?_)
  have J_2 : ∀ (n : Nat) (v1 : Int32) (v2 : Int32) (v3 : Int32), Lp1 (b_X8_isSo_2 S  v1 v2) n v3 = some x → G L Γ 0 0 (cells8 L o u S) 2 [(0, .ref o), (1, .int v1), (2, .int v2), (3, .int v3)] [] := by
    intro n v1 v2
    refine lp_ok1 (fun v3 => G L Γ 0 0 (cells8 L o u S) 2 [(0, .ref o), (1, .int v1), (2, .int v2), (3, .int v3)] []) (fun k_2 hk_2 => ?_) n
    have J_47 : ∀ (v3 : Int32), j_X8_isSo_47 S k_2 v1 v2 v3 = some x → G L Γ 0 0 (cells8 L o u S) 47 [(0, .ref o), (1, .int v1), (2, .int v2), (3, .int v3)] [] := by
      intro v3 h
      unfold j_X8_isSo_47 at h
      refine g_iinc C 50 (1 : Int32) 3 [(3, .int (v3 + (1 : Int32))), (0, .ref o), (1, .int v1), (2, .int v2)] dX8_isSo_47 rfl rfl 4 hNL (by decide) rfl rfl ?_
      refine g_goto C 2 dX8_isSo_50 (by decide) ?_
      refine g_lv (lv' := [(0, .ref o), (1, .int v1), (2, .int v2), (3, .int (v3 + (1 : Int32)))]) [1, 2, 3, 0] rfl ?_
      exact hk_2 _ h
    have J_42 : ∀ (v3 : Int32) (s0 : Int32) (s1 : Int32), j_X8_isSo_42 S k_2 v1 v2 v3 s0 s1 = some x → G L Γ 0 0 (cells8 L o u S) 42 [(0, .ref o), (1, .int v1), (2, .int v2), (3, .int v3)] [.int s0, .int s1] := by
      intro v3 s0 s1 h
      unfold j_X8_isSo_42 at h
      refine g_icmp_eq C 47 45 dX8_isSo_42 (by decide) rfl (fun c => ?_) (fun c => ?_)
      · have h := ifT c h
        exact J_47 _ h
      · have h := ifF c h
        refine g_iconst C 46 (0 : Int32) dX8_isSo_45 rfl rfl ?_
        exact g_zret (st := []) C E dX8_isSo_46 rfl (by obtain rfl := Option.some.inj h; exact ⟨rfl, rfl⟩)
    intro v3 h
    unfold b_X8_isSo_2 at h
    refine g_iload_n C 3 3 dX8_isSo_2 rfl rfl ?_
    refine g_aload_n C 4 0 dX8_isSo_3 rfl rfl ?_
    refine g_get (v := .int (S.1 26)) C 7 8 0 26 hin_8 rfl rfl (by decide) wf_X8_240 rfl dX8_isSo_4 rfl ?_
    refine g_icmp_ge C 53 10 dX8_isSo_7 (by decide) rfl (fun c => ?_) (fun c => ?_)
    · have h := ifT c h
      refine g_iconst C 54 (1 : Int32) dX8_isSo_53 rfl rfl ?_
      exact g_zret (st := []) C E dX8_isSo_54 rfl (by obtain rfl := Option.some.inj h; exact ⟨rfl, rfl⟩)
    · have h := ifF c h
      refine g_aload_n C 11 0 dX8_isSo_10 rfl rfl ?_
      refine g_get (v := .ref (u 25)) C 14 8 0 25 hin_8 rfl rfl (by decide) wf_X8_46 rfl dX8_isSo_11 rfl ?_
      refine g_iload_n C 15 3 dX8_isSo_14 rfl rfl ?_
      refine grdE h (fun hb h => ?_)
      refine g_iald (f := (S.2 25)) C 16 13 rfl hb dX8_isSo_15 rfl ?_
      refine g_iconst C 17 (2 : Int32) dX8_isSo_16 rfl rfl ?_
      refine g_icmp_ge C 47 20 dX8_isSo_17 (by decide) rfl (fun c => ?_) (fun c => ?_)
      · have h := ifT c h
        exact J_47 _ h
      · have h := ifF c h
        refine g_aload_n C 21 0 dX8_isSo_20 rfl rfl ?_
        refine g_iload_n C 22 3 dX8_isSo_21 rfl rfl ?_
        refine g_iload_n C 23 1 dX8_isSo_22 rfl rfl ?_
        refine g_iload_n C 24 2 dX8_isSo_23 rfl rfl ?_
        refine bnd h (fun x1 e1 h => ?_)
        refine g_callVs (w' := (cells8 L o u S)) C 27 [] [.int x1] (ct_X8_passesWay L o u S v3 v1 v2 x1 e1) kX8_passesWay kvX8_passesWay wl_X8_185 8 0 rfl rfl rfl rfl rfl rfl rfl (Nat.le_of_ble_eq_true rfl) ⟨Nat.le_of_ble_eq_true rfl, Nat.le_of_ble_eq_true rfl⟩ ⟨Nat.zero_le _, Nat.zero_le _⟩ dX8_isSo_24 rfl ?_
        refine g_aload_n C 28 0 dX8_isSo_27 rfl rfl ?_
        refine g_get (v := .ref (u 25)) C 31 8 0 25 hin_8 rfl rfl (by decide) wf_X8_46 rfl dX8_isSo_28 rfl ?_
        refine g_iload_n C 32 3 dX8_isSo_31 rfl rfl ?_
        refine grdE h (fun hb h => ?_)
        refine g_iald (f := (S.2 25)) C 33 13 rfl hb dX8_isSo_32 rfl ?_
        refine g_iconst C 34 (1 : Int32) dX8_isSo_33 rfl rfl ?_
        refine g_icmp_ne C 41 37 dX8_isSo_34 (by decide) rfl (fun c => ?_) (fun c => ?_)
        · have h := ifF c h
          refine g_iconst C 42 (0 : Int32) dX8_isSo_41 rfl rfl ?_
          exact J_42 _ _ _ h
        · have h := ifT c h
          refine g_iconst C 38 (1 : Int32) dX8_isSo_37 rfl rfl ?_
          refine g_goto C 42 dX8_isSo_38 (by decide) ?_
          exact J_42 _ _ _ h
  unfold f_X8_isSo at h
  refine g_iconst C 1 (0 : Int32) dX8_isSo_0 rfl rfl ?_
  refine g_istore_n C 2 3 [(3, .int (0 : Int32)), (0, .ref o), (1, .int v1), (2, .int v2)] dX8_isSo_1 rfl rfl 4 hNL (by decide) rfl ?_
  refine g_lv (lv' := [(0, .ref o), (1, .int v1), (2, .int v2), (3, .int (0 : Int32))]) [1, 2, 3, 0] rfl ?_
  exact J_2 _ _ _ _ h
set_option maxHeartbeats 4000000 in
set_option maxRecDepth 100000 in
theorem ct_X8_notTold (L : LL) (o : Nat) (u : Nat → Nat) (S : OS) (x : Int32) (h : f_X8_notTold S = some x) : Ct L yX8_notTold cX8_notTold 2 (some .int) (rmk 0 0 0 0) 0 0 [.ref o] (cells8 L o u S) (Pv (some (.int x)) (cells8 L o u S)) := by
  refine g_enter (lv := [(0, .ref o)]) kX8_notTold rfl rfl (Nat.le_of_ble_eq_true rfl) (fun Γ C E hNL => ?_)
  have J_29 : j_X8_notTold_29 S   = some x → G L Γ 0 0 (cells8 L o u S) 29 [(0, .ref o)] [] := by
    intro  h
    unfold j_X8_notTold_29 at h
    refine g_aload_n C 30 0 dX8_notTold_29 rfl rfl ?_
    refine g_get (v := .int (S.1 26)) C 33 8 0 26 hin_8 rfl rfl (by decide) wf_X8_240 rfl dX8_notTold_30 rfl ?_
    refine g_aload_n C 34 0 dX8_notTold_33 rfl rfl ?_
    refine g_get (v := .int (S.1 9)) C 37 8 0 9 hin_8 rfl rfl (by decide) wf_X8_67 rfl dX8_notTold_34 rfl ?_
    refine g_icmp_le C 45 40 dX8_notTold_37 (by decide) rfl (fun c => ?_) (fun c => ?_)
    · have h := ifT c h
      refine g_iconst C 46 (0 : Int32) dX8_notTold_45 rfl rfl ?_
      exact g_iret (st := []) C E dX8_notTold_46 (by obtain rfl := Option.some.inj h; exact ⟨rfl, rfl⟩)
    · have h := ifF c h
      refine g_bipush C 42 (-3 : Int32) dX8_notTold_40 rfl rfl ?_
      refine g_goto C 46 dX8_notTold_42 (by decide) ?_
      exact g_iret (st := []) C E dX8_notTold_46 (by obtain rfl := Option.some.inj h; exact ⟨rfl, rfl⟩)
  have J_2 : ∀ (n : Nat)  (v1 : Int32), Lp1 (b_X8_notTold_2 S  ) n v1 = some x → G L Γ 0 0 (cells8 L o u S) 2 [(0, .ref o), (1, .int v1)] [] := by
    intro n 
    refine lp_ok1 (fun v1 => G L Γ 0 0 (cells8 L o u S) 2 [(0, .ref o), (1, .int v1)] []) (fun k_2 hk_2 => ?_) n
    intro v1 h
    unfold b_X8_notTold_2 at h
    refine g_iload_n C 3 1 dX8_notTold_2 rfl rfl ?_
    refine g_aload_n C 4 0 dX8_notTold_3 rfl rfl ?_
    refine g_get (v := .int (S.1 26)) C 7 8 0 26 hin_8 rfl rfl (by decide) wf_X8_240 rfl dX8_notTold_4 rfl ?_
    refine g_icmp_ge C 29 10 dX8_notTold_7 (by decide) rfl (fun c => ?_) (fun c => ?_)
    · have h := ifT c h
      refine g_lv (lv' := [(0, .ref o)]) [0] rfl ?_
      exact J_29  h
    · have h := ifF c h
      refine g_aload_n C 11 0 dX8_notTold_10 rfl rfl ?_
      refine g_get (v := .ref (u 25)) C 14 8 0 25 hin_8 rfl rfl (by decide) wf_X8_46 rfl dX8_notTold_11 rfl ?_
      refine g_iload_n C 15 1 dX8_notTold_14 rfl rfl ?_
      refine grdE h (fun hb h => ?_)
      refine g_iald (f := (S.2 25)) C 16 13 rfl hb dX8_notTold_15 rfl ?_
      refine g_iconst C 17 (2 : Int32) dX8_notTold_16 rfl rfl ?_
      refine g_icmp_le C 23 20 dX8_notTold_17 (by decide) rfl (fun c => ?_) (fun c => ?_)
      · have h := ifT c h
        refine g_iinc C 26 (1 : Int32) 1 [(1, .int (v1 + (1 : Int32))), (0, .ref o)] dX8_notTold_23 rfl rfl 2 hNL (by decide) rfl rfl ?_
        refine g_goto C 2 dX8_notTold_26 (by decide) ?_
        refine g_lv (lv' := [(0, .ref o), (1, .int (v1 + (1 : Int32)))]) [1, 0] rfl ?_
        exact hk_2 _ h
      · have h := ifF c h
        refine g_bipush C 22 (-3 : Int32) dX8_notTold_20 rfl rfl ?_
        exact g_iret (st := []) C E dX8_notTold_22 (by obtain rfl := Option.some.inj h; exact ⟨rfl, rfl⟩)
  unfold f_X8_notTold at h
  refine g_iconst C 1 (0 : Int32) dX8_notTold_0 rfl rfl ?_
  refine g_istore_n C 2 1 [(1, .int (0 : Int32)), (0, .ref o)] dX8_notTold_1 rfl rfl 2 hNL (by decide) rfl ?_
  refine g_lv (lv' := [(0, .ref o), (1, .int (0 : Int32))]) [1, 0] rfl ?_
  exact J_2 _ _ h
set_option maxHeartbeats 4000000 in
set_option maxRecDepth 100000 in
theorem ct_X8_whenSo (L : LL) (o : Nat) (u : Nat → Nat) (S : OS) (v1 : Int32) (x : Int32) (h : f_X8_whenSo S v1 = some x) : Ct L yX8_whenSo cX8_whenSo 4 (some .int) (rmk 7 0 0 165) 0 0 [.ref o, .int v1] (cells8 L o u S) (Pv (some (.int x)) (cells8 L o u S)) := by
  refine g_enter (lv := [(0, .ref o), (1, .int v1)]) kX8_whenSo rfl rfl (Nat.le_of_ble_eq_true rfl) (fun Γ C E hNL => ?_)
  have J_4 : ∀ (n : Nat) (v1 : Int32) (v2 : Int32) (v3 : Int32), Lp2 (b_X8_whenSo_4 S  v1) n v2 v3 = some x → G L Γ 0 0 (cells8 L o u S) 4 [(0, .ref o), (1, .int v1), (2, .int v2), (3, .int v3)] [] := by
    intro n v1
    refine lp_ok2 (fun v2 v3 => G L Γ 0 0 (cells8 L o u S) 4 [(0, .ref o), (1, .int v1), (2, .int v2), (3, .int v3)] []) (fun k_4 hk_4 => ?_) n
    have J_27 : ∀ (v3 : Int32) (s0 : Int32) (s1 : Int32), j_X8_whenSo_27 S k_4 v1 v3 s0 s1 = some x → G L Γ 0 0 (cells8 L o u S) 27 [(0, .ref o), (1, .int v1), (3, .int v3)] [.int s0, .int s1] := by
      intro v3 s0 s1 h
      unfold j_X8_whenSo_27 at h
      refine g_ior C 28 dX8_whenSo_27 rfl ?_
      refine g_istore_n C 29 2 [(2, .int (s1 ||| s0)), (0, .ref o), (1, .int v1), (3, .int v3)] dX8_whenSo_28 rfl rfl 4 hNL (by decide) rfl ?_
      refine g_iinc C 32 (1 : Int32) 3 [(3, .int (v3 + (1 : Int32))), (2, .int (s1 ||| s0)), (0, .ref o), (1, .int v1)] dX8_whenSo_29 rfl rfl 4 hNL (by decide) rfl rfl ?_
      refine g_goto C 4 dX8_whenSo_32 (by decide) ?_
      refine g_lv (lv' := [(0, .ref o), (1, .int v1), (2, .int (s1 ||| s0)), (3, .int (v3 + (1 : Int32)))]) [2, 3, 1, 0] rfl ?_
      exact hk_4 _ _ h
    intro v2 v3 h
    unfold b_X8_whenSo_4 at h
    refine g_iload_n C 5 3 dX8_whenSo_4 rfl rfl ?_
    refine g_bipush C 7 (24 : Int32) dX8_whenSo_5 rfl rfl ?_
    refine g_icmp_ge C 35 10 dX8_whenSo_7 (by decide) rfl (fun c => ?_) (fun c => ?_)
    · have h := ifT c h
      refine g_iload_n C 36 2 dX8_whenSo_35 rfl rfl ?_
      exact g_iret (st := []) C E dX8_whenSo_36 (by obtain rfl := Option.some.inj h; exact ⟨rfl, rfl⟩)
    · have h := ifF c h
      refine g_iload_n C 11 2 dX8_whenSo_10 rfl rfl ?_
      refine g_aload_n C 12 0 dX8_whenSo_11 rfl rfl ?_
      refine g_iload_n C 13 1 dX8_whenSo_12 rfl rfl ?_
      refine g_iload_n C 14 3 dX8_whenSo_13 rfl rfl ?_
      refine bnd h (fun x1 e1 h => ?_)
      refine g_callVs (w' := (cells8 L o u S)) C 17 [.int v2] [.int x1, .int v2] (ct_X8_isSo L o u S v1 v3 x1 e1) kX8_isSo kvX8_isSo wl_X8_243 8 0 rfl rfl rfl rfl rfl rfl rfl (Nat.le_of_ble_eq_true rfl) ⟨Nat.le_of_ble_eq_true rfl, Nat.le_of_ble_eq_true rfl⟩ ⟨Nat.zero_le _, Nat.zero_le _⟩ dX8_whenSo_14 rfl ?_
      refine g_if_eq C 26 20 dX8_whenSo_17 (by decide) rfl (fun c => ?_) (fun c => ?_)
      · have h := ifT c h
        refine g_iconst C 27 (0 : Int32) dX8_whenSo_26 rfl rfl ?_
        refine g_lv (lv' := [(0, .ref o), (1, .int v1), (3, .int v3)]) [0, 1, 3] rfl ?_
        exact J_27 _ _ _ h
      · have h := ifF c h
        refine g_iconst C 21 (1 : Int32) dX8_whenSo_20 rfl rfl ?_
        refine g_iload_n C 22 3 dX8_whenSo_21 rfl rfl ?_
        refine g_ishl C 23 dX8_whenSo_22 rfl ?_
        refine g_goto C 27 dX8_whenSo_23 (by decide) ?_
        refine g_lv (lv' := [(0, .ref o), (1, .int v1), (3, .int v3)]) [0, 1, 3] rfl ?_
        exact J_27 _ _ _ h
  unfold f_X8_whenSo at h
  refine g_iconst C 1 (0 : Int32) dX8_whenSo_0 rfl rfl ?_
  refine g_istore_n C 2 2 [(2, .int (0 : Int32)), (0, .ref o), (1, .int v1)] dX8_whenSo_1 rfl rfl 4 hNL (by decide) rfl ?_
  refine g_iconst C 3 (0 : Int32) dX8_whenSo_2 rfl rfl ?_
  refine g_istore_n C 4 3 [(3, .int (0 : Int32)), (2, .int (0 : Int32)), (0, .ref o), (1, .int v1)] dX8_whenSo_3 rfl rfl 4 hNL (by decide) rfl ?_
  refine g_lv (lv' := [(0, .ref o), (1, .int v1), (2, .int (0 : Int32)), (3, .int (0 : Int32))]) [2, 3, 1, 0] rfl ?_
  exact J_4 _ _ _ _ h
set_option maxHeartbeats 4000000 in
set_option maxRecDepth 100000 in
theorem ct_X8_strict (L : LL) (o : Nat) (u : Nat → Nat) (S : OS) (v1 : Int32) (v2 : Int32) (x : (Int32 × OS)) (h : f_X8_strict S v1 v2 = some x) : Ct L yX8_strict cX8_strict 7 (some .int) (rmk 8 0 0 188) 0 0 [.ref o, .int v1, .int v2] (cells8 L o u S) (Pv (some (.int x.1)) (cells8 L o u x.2)) := by
  refine g_enter (lv := [(0, .ref o), (1, .int v1), (2, .int v2)]) kX8_strict rfl rfl (Nat.le_of_ble_eq_true rfl) (fun Γ C E hNL => ?_)
  have J_115 : ∀ (v2 : Int32) (v4 : Int32) (v5 : Int32) (v6 : Int32) (S : OS), j_X8_strict_115   v2 v4 v5 v6 S = some x → G L Γ 0 0 (cells8 L o u S) 115 [(0, .ref o), (2, .int v2), (4, .int v4), (5, .int v5), (6, .int v6)] [] := by
    intro v2 v4 v5 v6 S h
    unfold j_X8_strict_115 at h
    refine g_aload_n C 116 0 dX8_strict_115 rfl rfl ?_
    refine g_iload C 118 2 dX8_strict_116 rfl rfl ?_
    refine g_put (w' := (cells8 L o u (su S 11 v4))) C 121 8 0 11 hin_8 tyX8 tyX8_ok nmX8 rfl rfl (by decide) wf_X8_56 rfl rfl rfl (Nat.le_of_ble_eq_true rfl) dX8_strict_118 rfl rfl ?_
    refine g_iload_n C 122 1 dX8_strict_121 rfl rfl ?_
    refine g_if_ne C 130 125 dX8_strict_122 (by decide) rfl (fun c => ?_) (fun c => ?_)
    · have h := ifF c h
      refine g_iload C 132 4 dX8_strict_130 rfl rfl ?_
      exact g_iret (st := []) C E dX8_strict_132 (by obtain rfl := Option.some.inj h; exact ⟨rfl, rfl⟩)
    · have h := ifT c h
      refine g_iload C 127 3 dX8_strict_125 rfl rfl ?_
      refine g_goto C 132 dX8_strict_127 (by decide) ?_
      exact g_iret (st := []) C E dX8_strict_132 (by obtain rfl := Option.some.inj h; exact ⟨rfl, rfl⟩)
  have J_71 : ∀ (n : Nat) (v1 : Int32) (v2 : Int32) (v4 : Int32) (v5 : Int32) (v6 : Int32) (S : OS), Lp3 (b_X8_strict_71   v1 v2 v4) n v5 v6 S = some x → G L Γ 0 0 (cells8 L o u S) 71 [(0, .ref o), (1, .int v1), (2, .int v2), (4, .int v4), (5, .int v5), (6, .int v6)] [] := by
    intro n v1 v2 v4
    refine lp_ok3 (fun v5 v6 S => G L Γ 0 0 (cells8 L o u S) 71 [(0, .ref o), (1, .int v1), (2, .int v2), (4, .int v4), (5, .int v5), (6, .int v6)] []) (fun k_71 hk_71 => ?_) n
    have J_102 : ∀ (v5 : Int32) (v6 : Int32) (S : OS), j_X8_strict_102  k_71 v1 v2 v4 v5 v6 S = some x → G L Γ 0 0 (cells8 L o u S) 102 [(0, .ref o), (1, .int v1), (2, .int v2), (4, .int v4), (5, .int v5), (6, .int v6)] [] := by
      intro v5 v6 S h
      unfold j_X8_strict_102 at h
      refine g_aload_n C 103 0 dX8_strict_102 rfl rfl ?_
      refine g_dup C 104 dX8_strict_103 rfl rfl ?_
      refine g_get (v := .int (S.1 11)) C 107 8 0 11 hin_8 rfl rfl (by decide) wf_X8_56 rfl dX8_strict_104 rfl ?_
      refine g_iconst C 108 (1 : Int32) dX8_strict_107 rfl rfl ?_
      refine g_isub C 109 dX8_strict_108 rfl ?_
      refine g_put (w' := (cells8 L o u (su S 11 ((S.1 11) - (1 : Int32))))) C 112 8 0 11 hin_8 tyX8 tyX8_ok nmX8 rfl rfl (by decide) wf_X8_56 rfl rfl rfl (Nat.le_of_ble_eq_true rfl) dX8_strict_109 rfl rfl ?_
      refine g_goto C 71 dX8_strict_112 (by decide) ?_
      exact hk_71 _ _ _ h
    intro v5 v6 S h
    unfold b_X8_strict_71 at h
    refine g_aload_n C 72 0 dX8_strict_71 rfl rfl ?_
    refine g_get (v := .int (S.1 11)) C 75 8 0 11 hin_8 rfl rfl (by decide) wf_X8_56 rfl dX8_strict_72 rfl ?_
    refine g_if_lt C 115 78 dX8_strict_75 (by decide) rfl (fun c => ?_) (fun c => ?_)
    · have h := ifT c h
      refine g_lv (lv' := [(0, .ref o), (2, .int v2), (4, .int v4), (5, .int v5), (6, .int v6)]) [0, 2, 3, 4, 5] rfl ?_
      exact J_115 _ _ _ _ _ h
    · have h := ifF c h
      refine g_aload_n C 79 0 dX8_strict_78 rfl rfl ?_
      refine g_iload_n C 80 1 dX8_strict_79 rfl rfl ?_
      refine g_aload_n C 81 0 dX8_strict_80 rfl rfl ?_
      refine g_get (v := .int (S.1 10)) C 84 8 0 10 hin_8 rfl rfl (by decide) wf_X8_52 rfl dX8_strict_81 rfl ?_
      refine bnd h (fun x6 e6 h => ?_)
      refine g_callVs (w' := (cells8 L o u S)) C 87 [] [.int x6] (ct_X8_isSo L o u S v1 (S.1 10) x6 e6) kX8_isSo kvX8_isSo wl_X8_243 8 0 rfl rfl rfl rfl rfl rfl rfl (Nat.le_of_ble_eq_true rfl) ⟨Nat.le_of_ble_eq_true rfl, Nat.le_of_ble_eq_true rfl⟩ ⟨Nat.zero_le _, Nat.zero_le _⟩ dX8_strict_84 rfl ?_
      refine g_if_ne C 93 90 dX8_strict_87 (by decide) rfl (fun c => ?_) (fun c => ?_)
      · have h := ifF c h
        refine g_iinc C 96 (1 : Int32) 4 [(5, .int (v5 + (1 : Int32))), (0, .ref o), (1, .int v1), (2, .int v2), (4, .int v4), (6, .int v6)] dX8_strict_93 rfl rfl 7 hNL (by decide) rfl rfl ?_
        refine g_aload_n C 97 1 dX8_strict_96 rfl rfl ?_
        refine g_get (v := .int (S.1 11)) C 100 8 0 11 hin_8 rfl rfl (by decide) wf_X8_56 rfl dX8_strict_97 rfl ?_
        refine g_istore C 102 6 [(6, .int (S.1 11)), (5, .int (v5 + (1 : Int32))), (0, .ref o), (1, .int v1), (2, .int v2), (4, .int v4)] dX8_strict_100 rfl 7 hNL (by decide) rfl ?_
        refine g_lv (lv' := [(0, .ref o), (1, .int v1), (2, .int v2), (4, .int v4), (5, .int (v5 + (1 : Int32))), (6, .int (S.1 11))]) [2, 3, 4, 5, 1, 0] rfl ?_
        exact J_102 _ _ _ h
      · have h := ifT c h
        refine g_goto C 102 dX8_strict_90 (by decide) ?_
        exact J_102 _ _ _ h
  have J_30 : ∀ (v1 : Int32) (v2 : Int32) (s0 : Int32) (S : OS), j_X8_strict_30   v1 v2 s0 S = some x → G L Γ 0 0 (cells8 L o u S) 30 [(0, .ref o), (1, .int v1), (2, .int v2)] [.int s0] := by
    intro v1 v2 s0 S h
    unfold j_X8_strict_30 at h
    refine g_istore_n C 31 3 [(3, .int s0), (0, .ref o), (1, .int v1), (2, .int v2)] dX8_strict_30 rfl rfl 7 hNL (by decide) rfl ?_
    refine g_iload_n C 32 0 dX8_strict_31 rfl rfl ?_
    refine g_if_eq C 41 35 dX8_strict_32 (by decide) rfl (fun c => ?_) (fun c => ?_)
    · have h := ifT c h
      refine g_iload_n C 42 3 dX8_strict_41 rfl rfl ?_
      refine g_iconst C 43 (2 : Int32) dX8_strict_42 rfl rfl ?_
      refine g_icmp_ne C 52 46 dX8_strict_43 (by decide) rfl (fun c => ?_) (fun c => ?_)
      · have h := ifF c h
        refine g_aload_n C 53 1 dX8_strict_52 rfl rfl ?_
        refine g_get (v := .int (S.1 11)) C 56 8 0 11 hin_8 rfl rfl (by decide) wf_X8_56 rfl dX8_strict_53 rfl ?_
        refine g_istore C 58 4 [(4, .int (S.1 11)), (3, .int s0), (0, .ref o), (1, .int v1), (2, .int v2)] dX8_strict_56 rfl 7 hNL (by decide) rfl ?_
        refine g_iconst C 59 (0 : Int32) dX8_strict_58 rfl rfl ?_
        refine g_istore C 61 5 [(5, .int (0 : Int32)), (4, .int (S.1 11)), (3, .int s0), (0, .ref o), (1, .int v1), (2, .int v2)] dX8_strict_59 rfl 7 hNL (by decide) rfl ?_
        refine g_bipush C 63 (-9 : Int32) dX8_strict_61 rfl rfl ?_
        refine g_istore C 65 6 [(6, .int (-9 : Int32)), (5, .int (0 : Int32)), (4, .int (S.1 11)), (3, .int s0), (0, .ref o), (1, .int v1), (2, .int v2)] dX8_strict_63 rfl 7 hNL (by decide) rfl ?_
        refine g_aload_n C 66 4 dX8_strict_65 rfl rfl ?_
        refine g_bipush C 68 (99 : Int32) dX8_strict_66 rfl rfl ?_
        refine g_put (w' := (cells8 L o u (su S 11 (99 : Int32)))) C 71 8 0 11 hin_8 tyX8 tyX8_ok nmX8 rfl rfl (by decide) wf_X8_56 rfl rfl rfl (Nat.le_of_ble_eq_true rfl) dX8_strict_68 rfl rfl ?_
        refine g_lv (lv' := [(0, .ref o), (1, .int v1), (2, .int v2), (4, .int (S.1 11)), (5, .int (0 : Int32)), (6, .int (-9 : Int32))]) [4, 5, 6, 2, 1, 0] rfl ?_
        exact J_71 _ _ _ _ _ _ _ h
      · have h := ifT c h
        refine g_aload_n C 47 1 dX8_strict_46 rfl rfl ?_
        refine g_iload_n C 48 2 dX8_strict_47 rfl rfl ?_
        refine bnd h (fun x4 e4 h => ?_)
        refine g_callVs (w' := (cells8 L o u S)) C 51 [] [.int x4] (ct_X8_whenSo L o u S v1 x4 e4) kX8_whenSo kvX8_whenSo wl_X8_249 8 0 rfl rfl rfl rfl rfl rfl rfl (Nat.le_of_ble_eq_true rfl) ⟨Nat.le_of_ble_eq_true rfl, Nat.le_of_ble_eq_true rfl⟩ ⟨Nat.zero_le _, Nat.zero_le _⟩ dX8_strict_48 rfl ?_
        exact g_iret (st := []) C E dX8_strict_51 (by obtain rfl := Option.some.inj h; exact ⟨rfl, rfl⟩)
    · have h := ifF c h
      refine g_aload_n C 36 1 dX8_strict_35 rfl rfl ?_
      refine g_iload_n C 37 0 dX8_strict_36 rfl rfl ?_
      refine bnd h (fun x5 e5 h => ?_)
      refine g_callVs (w' := (cells8 L o u x5.2)) C 40 [] [.int x5.1] (ct_X8_no L o u S s0 x5 e5) kX8_no kvX8_no wl_X8_77 8 0 rfl rfl rfl rfl rfl rfl rfl (Nat.le_of_ble_eq_true rfl) ⟨Nat.le_of_ble_eq_true rfl, Nat.le_of_ble_eq_true rfl⟩ ⟨Nat.zero_le _, Nat.zero_le _⟩ dX8_strict_37 rfl ?_
      exact g_iret (st := []) C E dX8_strict_40 (by obtain rfl := Option.some.inj h; exact ⟨rfl, rfl⟩)
  unfold f_X8_strict at h
  refine g_aload_n C 1 0 dX8_strict_0 rfl rfl ?_
  refine g_iload_n C 2 1 dX8_strict_1 rfl rfl ?_
  refine bnd h (fun x1 e1 h => ?_)
  refine g_callVs (w' := (cells8 L o u S)) C 5 [] [.int x1] (ct_X8_isWay L o u S v1 x1 e1) kX8_isWay kvX8_isWay wl_X8_120 8 0 rfl rfl rfl rfl rfl rfl rfl (Nat.le_of_ble_eq_true rfl) ⟨Nat.le_of_ble_eq_true rfl, Nat.le_of_ble_eq_true rfl⟩ ⟨Nat.zero_le _, Nat.zero_le _⟩ dX8_strict_2 rfl ?_
  refine g_if_ne C 12 8 dX8_strict_5 (by decide) rfl (fun c => ?_) (fun c => ?_)
  · have h := ifF c h
    refine g_iload_n C 13 2 dX8_strict_12 rfl rfl ?_
    refine g_iconst C 14 (0 : Int32) dX8_strict_13 rfl rfl ?_
    refine g_iconst C 15 (2 : Int32) dX8_strict_14 rfl rfl ?_
    refine bnd h (fun x2 e2 h => ?_)
    refine g_callSr C 18 [] [.int x2] (ct_X8_isIn L v2 (0 : Int32) (2 : Int32) x2 e2) kX8_isIn kvX8_isIn wl_X8_88 [] rfl rfl rfl rfl rfl (Nat.le_of_ble_eq_true rfl) ⟨Nat.le_of_ble_eq_true rfl, Nat.le_of_ble_eq_true rfl⟩ ⟨Nat.zero_le _, Nat.zero_le _⟩ dX8_strict_15 rfl ?_
    refine g_if_ne C 26 21 dX8_strict_18 (by decide) rfl (fun c => ?_) (fun c => ?_)
    · have h := ifF c h
      refine g_aload_n C 27 0 dX8_strict_26 rfl rfl ?_
      refine bnd h (fun x3 e3 h => ?_)
      refine g_callVs (w' := (cells8 L o u S)) C 30 [] [.int x3] (ct_X8_notTold L o u S x3 e3) kX8_notTold kvX8_notTold wl_X8_246 8 0 rfl rfl rfl rfl rfl rfl rfl (Nat.le_of_ble_eq_true rfl) ⟨Nat.le_of_ble_eq_true rfl, Nat.le_of_ble_eq_true rfl⟩ ⟨Nat.zero_le _, Nat.zero_le _⟩ dX8_strict_27 rfl ?_
      exact J_30 _ _ _ _ h
    · have h := ifT c h
      refine g_bipush C 23 (-2 : Int32) dX8_strict_21 rfl rfl ?_
      refine g_goto C 30 dX8_strict_23 (by decide) ?_
      exact J_30 _ _ _ _ h
  · have h := ifT c h
    refine g_iconst C 9 (-1 : Int32) dX8_strict_8 rfl rfl ?_
    refine g_goto C 30 dX8_strict_9 (by decide) ?_
    exact J_30 _ _ _ _ h
set_option maxHeartbeats 4000000 in
set_option maxRecDepth 100000 in
theorem ct_X8_passesLater (L : LL) (o : Nat) (u : Nat → Nat) (S : OS) (v1 : Int32) (v2 : Int32) (v3 : Int32) (x : Int32) (h : f_X8_passesLater S v1 v2 v3 = some x) : Ct L yX8_passesLater cX8_passesLater 4 (some .int) (rmk 6 0 0 142) 0 0 [.ref o, .int v1, .int v2, .int v3] (cells8 L o u S) (Pv (some (.int x)) (cells8 L o u S)) := by
  refine g_enter (lv := [(0, .ref o), (1, .int v1), (2, .int v2), (3, .int v3)]) kX8_passesLater rfl rfl (Nat.le_of_ble_eq_true rfl) (fun Γ C E hNL => ?_)
  unfold f_X8_passesLater at h
  refine g_aload_n C 1 0 dX8_passesLater_0 rfl rfl ?_
  refine g_iload_n C 2 1 dX8_passesLater_1 rfl rfl ?_
  refine g_iload_n C 3 2 dX8_passesLater_2 rfl rfl ?_
  refine g_aload_n C 4 0 dX8_passesLater_3 rfl rfl ?_
  refine g_get (v := .int (S.1 10)) C 7 8 0 10 hin_8 rfl rfl (by decide) wf_X8_52 rfl dX8_passesLater_4 rfl ?_
  refine g_aload_n C 8 0 dX8_passesLater_7 rfl rfl ?_
  refine g_get (v := .int (S.1 9)) C 11 8 0 9 hin_8 rfl rfl (by decide) wf_X8_67 rfl dX8_passesLater_8 rfl ?_
  refine g_iadd C 12 dX8_passesLater_11 rfl ?_
  refine g_iload_n C 13 3 dX8_passesLater_12 rfl rfl ?_
  refine bnd h (fun x1 e1 h => ?_)
  refine g_callSr C 16 [.int ((S.1 10) + (S.1 9)), .int v2, .int v1, .ref o] [.int x1, .int ((S.1 10) + (S.1 9)), .int v2, .int v1, .ref o] (ct_X8_bits L v3 x1 e1) kX8_bits kvX8_bits wl_X8_212 [] rfl rfl rfl rfl rfl (Nat.le_of_ble_eq_true rfl) ⟨Nat.le_of_ble_eq_true rfl, Nat.le_of_ble_eq_true rfl⟩ ⟨Nat.zero_le _, Nat.zero_le _⟩ dX8_passesLater_13 rfl ?_
  refine g_isub C 17 dX8_passesLater_16 rfl ?_
  refine g_bipush C 19 (24 : Int32) dX8_passesLater_17 rfl rfl ?_
  refine g_irem C 20 dX8_passesLater_19 rfl (by decide) ?_
  refine bnd h (fun x2 e2 h => ?_)
  refine g_callVs (w' := (cells8 L o u S)) C 23 [] [.int x2] (ct_X8_passesWay L o u S v1 v2 (remI (((S.1 10) + (S.1 9)) - x1) (24 : Int32)) x2 e2) kX8_passesWay kvX8_passesWay wl_X8_185 8 0 rfl rfl rfl rfl rfl rfl rfl (Nat.le_of_ble_eq_true rfl) ⟨Nat.le_of_ble_eq_true rfl, Nat.le_of_ble_eq_true rfl⟩ ⟨Nat.zero_le _, Nat.zero_le _⟩ dX8_passesLater_20 rfl ?_
  refine g_if_eq C 30 26 dX8_passesLater_23 (by decide) rfl (fun c => ?_) (fun c => ?_)
  · have h := ifT c h
    refine g_iconst C 31 (0 : Int32) dX8_passesLater_30 rfl rfl ?_
    exact g_iret (st := []) C E dX8_passesLater_31 (by obtain rfl := Option.some.inj h; exact ⟨rfl, rfl⟩)
  · have h := ifF c h
    refine g_iconst C 27 (1 : Int32) dX8_passesLater_26 rfl rfl ?_
    refine g_goto C 31 dX8_passesLater_27 (by decide) ?_
    exact g_iret (st := []) C E dX8_passesLater_31 (by obtain rfl := Option.some.inj h; exact ⟨rfl, rfl⟩)
set_option maxHeartbeats 4000000 in
set_option maxRecDepth 100000 in
theorem ct_X8_findQueue (L : LL) (o : Nat) (u : Nat → Nat) (S : OS) (v1 : Int32) (x : OS) (h : f_X8_findQueue S v1 = some x) : Ct L yX8_findQueue cX8_findQueue 5 none (rmk 7 0 0 165) 0 0 [.ref o, .int v1] (cells8 L o u S) (Pv none (cells8 L o u x)) := by
  refine g_enter (lv := [(0, .ref o), (1, .int v1)]) kX8_findQueue rfl rfl (Nat.le_of_ble_eq_true rfl) (fun Γ C E hNL => ?_)
  have J_2 : ∀ (n : Nat) (v1 : Int32) (v2 : Int32) (S : OS), Lp2 (b_X8_findQueue_2   v1) n v2 S = some x → G L Γ 0 0 (cells8 L o u S) 2 [(0, .ref o), (1, .int v1), (2, .int v2)] [] := by
    intro n v1
    refine lp_ok2 (fun v2 S => G L Γ 0 0 (cells8 L o u S) 2 [(0, .ref o), (1, .int v1), (2, .int v2)] []) (fun k_2 hk_2 => ?_) n
    have J_97 : ∀ (v2 : Int32) (S : OS), j_X8_findQueue_97  k_2 v1 v2 S = some x → G L Γ 0 0 (cells8 L o u S) 97 [(0, .ref o), (1, .int v1), (2, .int v2)] [] := by
      intro v2 S h
      unfold j_X8_findQueue_97 at h
      refine g_iinc C 100 (1 : Int32) 2 [(2, .int (v2 + (1 : Int32))), (0, .ref o), (1, .int v1)] dX8_findQueue_97 rfl rfl 5 hNL (by decide) rfl rfl ?_
      refine g_goto C 2 dX8_findQueue_100 (by decide) ?_
      refine g_lv (lv' := [(0, .ref o), (1, .int v1), (2, .int (v2 + (1 : Int32)))]) [1, 2, 0] rfl ?_
      exact hk_2 _ _ h
    have J_21 : ∀ (n : Nat) (v2 : Int32) (v3 : Int32) (S : OS), Lp2 (b_X8_findQueue_21  k_2 v1 v2) n v3 S = some x → G L Γ 0 0 (cells8 L o u S) 21 [(0, .ref o), (1, .int v1), (2, .int v2), (3, .int v3)] [] := by
      intro n v2
      refine lp_ok2 (fun v3 S => G L Γ 0 0 (cells8 L o u S) 21 [(0, .ref o), (1, .int v1), (2, .int v2), (3, .int v3)] []) (fun k_21 hk_21 => ?_) n
      have J_90 : ∀ (v3 : Int32) (s0 : Int32) (s1 : Int32) (S : OS), j_X8_findQueue_90  k_2 k_21 v1 v2 v3 s0 s1 S = some x → G L Γ 0 0 (cells8 L o u S) 90 [(0, .ref o), (1, .int v1), (2, .int v2), (3, .int v3)] [.int s0, .int s1, .ref (u 27)] := by
        intro v3 s0 s1 S h
        unfold j_X8_findQueue_90 at h
        refine grdE h (fun hb h => ?_)
        refine g_iast (f := (S.2 27)) (w' := (cells8 L o u (sa S 27 (upd (S.2 27) (s1).toNatClampNeg s0)))) C 91 14 rfl hb dX8_findQueue_90 rfl rfl ?_
        refine g_iinc C 94 (1 : Int32) 3 [(3, .int (v3 + (1 : Int32))), (0, .ref o), (1, .int v1), (2, .int v2)] dX8_findQueue_91 rfl rfl 5 hNL (by decide) rfl rfl ?_
        refine g_goto C 21 dX8_findQueue_94 (by decide) ?_
        refine g_lv (lv' := [(0, .ref o), (1, .int v1), (2, .int v2), (3, .int (v3 + (1 : Int32)))]) [1, 2, 3, 0] rfl ?_
        exact hk_21 _ _ h
      have J_61 : ∀ (v3 : Int32) (s0 : Int32) (S : OS), j_X8_findQueue_61  k_2 k_21 v1 v2 v3 s0 S = some x → G L Γ 0 0 (cells8 L o u S) 61 [(0, .ref o), (1, .int v1), (2, .int v2), (3, .int v3)] [.int s0] := by
        intro v3 s0 S h
        unfold j_X8_findQueue_61 at h
        refine g_istore C 63 4 [(4, .int s0), (0, .ref o), (1, .int v1), (2, .int v2), (3, .int v3)] dX8_findQueue_61 rfl 5 hNL (by decide) rfl ?_
        refine g_aload_n C 64 1 dX8_findQueue_63 rfl rfl ?_
        refine g_get (v := .ref (u 27)) C 67 8 0 27 hin_8 rfl rfl (by decide) wf_X8_49 rfl dX8_findQueue_64 rfl ?_
        refine g_iload_n C 68 3 dX8_findQueue_67 rfl rfl ?_
        refine g_iload C 70 0 dX8_findQueue_68 rfl rfl ?_
        refine g_aload_n C 71 1 dX8_findQueue_70 rfl rfl ?_
        refine g_get (v := .ref (u 27)) C 74 8 0 27 hin_8 rfl rfl (by decide) wf_X8_49 rfl dX8_findQueue_71 rfl ?_
        refine g_iload_n C 75 3 dX8_findQueue_74 rfl rfl ?_
        refine grdE h (fun hb h => ?_)
        refine g_iald (f := (S.2 27)) C 76 14 rfl hb dX8_findQueue_75 rfl ?_
        refine g_icmp_le C 84 79 dX8_findQueue_76 (by decide) rfl (fun c => ?_) (fun c => ?_)
        · have h := ifT c h
          refine g_aload_n C 85 1 dX8_findQueue_84 rfl rfl ?_
          refine g_get (v := .ref (u 27)) C 88 8 0 27 hin_8 rfl rfl (by decide) wf_X8_49 rfl dX8_findQueue_85 rfl ?_
          refine g_iload_n C 89 3 dX8_findQueue_88 rfl rfl ?_
          refine grdE h (fun hb h => ?_)
          refine g_iald (f := (S.2 27)) C 90 14 rfl hb dX8_findQueue_89 rfl ?_
          refine g_lv (lv' := [(0, .ref o), (1, .int v1), (2, .int v2), (3, .int v3)]) [1, 2, 3, 4] rfl ?_
          exact J_90 _ _ _ _ h
        · have h := ifF c h
          refine g_iload C 81 0 dX8_findQueue_79 rfl rfl ?_
          refine g_goto C 90 dX8_findQueue_81 (by decide) ?_
          refine g_lv (lv' := [(0, .ref o), (1, .int v1), (2, .int v2), (3, .int v3)]) [1, 2, 3, 4] rfl ?_
          exact J_90 _ _ _ _ h
      intro v3 S h
      unfold b_X8_findQueue_21 at h
      refine g_iload_n C 22 3 dX8_findQueue_21 rfl rfl ?_
      refine g_aload_n C 23 0 dX8_findQueue_22 rfl rfl ?_
      refine g_get (v := .int (S.1 9)) C 26 8 0 9 hin_8 rfl rfl (by decide) wf_X8_67 rfl dX8_findQueue_23 rfl ?_
      refine g_icmp_ge C 97 29 dX8_findQueue_26 (by decide) rfl (fun c => ?_) (fun c => ?_)
      · have h := ifT c h
        refine g_lv (lv' := [(0, .ref o), (1, .int v1), (2, .int v2)]) [0, 1, 2] rfl ?_
        exact J_97 _ _ h
      · have h := ifF c h
        refine g_iload_n C 30 2 dX8_findQueue_29 rfl rfl ?_
        refine g_iload_n C 31 3 dX8_findQueue_30 rfl rfl ?_
        refine bnd h (fun x1 e1 h => ?_)
        refine g_callSr C 34 [] [.int x1] (ct_X8_has L v2 v3 x1 e1) kX8_has kvX8_has wl_X8_173 [] rfl rfl rfl rfl rfl (Nat.le_of_ble_eq_true rfl) ⟨Nat.le_of_ble_eq_true rfl, Nat.le_of_ble_eq_true rfl⟩ ⟨Nat.zero_le _, Nat.zero_le _⟩ dX8_findQueue_31 rfl ?_
        refine g_if_eq C 60 37 dX8_findQueue_34 (by decide) rfl (fun c => ?_) (fun c => ?_)
        · have h := ifT c h
          refine g_iconst C 61 (0 : Int32) dX8_findQueue_60 rfl rfl ?_
          exact J_61 _ _ _ h
        · have h := ifF c h
          refine g_aload_n C 38 0 dX8_findQueue_37 rfl rfl ?_
          refine g_iload_n C 39 3 dX8_findQueue_38 rfl rfl ?_
          refine g_iload_n C 40 1 dX8_findQueue_39 rfl rfl ?_
          refine g_iload_n C 41 2 dX8_findQueue_40 rfl rfl ?_
          refine bnd h (fun x2 e2 h => ?_)
          refine g_callVs (w' := (cells8 L o u S)) C 44 [] [.int x2] (ct_X8_passesLater L o u S v3 v1 v2 x2 e2) kX8_passesLater kvX8_passesLater wl_X8_252 8 0 rfl rfl rfl rfl rfl rfl rfl (Nat.le_of_ble_eq_true rfl) ⟨Nat.le_of_ble_eq_true rfl, Nat.le_of_ble_eq_true rfl⟩ ⟨Nat.zero_le _, Nat.zero_le _⟩ dX8_findQueue_41 rfl ?_
          refine g_aload_n C 45 0 dX8_findQueue_44 rfl rfl ?_
          refine g_get (v := .ref (u 27)) C 48 8 0 27 hin_8 rfl rfl (by decide) wf_X8_49 rfl dX8_findQueue_45 rfl ?_
          refine g_iload_n C 49 2 dX8_findQueue_48 rfl rfl ?_
          refine g_iconst C 50 (1 : Int32) dX8_findQueue_49 rfl rfl ?_
          refine g_iload_n C 51 3 dX8_findQueue_50 rfl rfl ?_
          refine g_ishl C 52 dX8_findQueue_51 rfl ?_
          refine g_iconst C 53 (-1 : Int32) dX8_findQueue_52 rfl rfl ?_
          refine g_ixor C 54 dX8_findQueue_53 rfl ?_
          refine g_iand C 55 dX8_findQueue_54 rfl ?_
          refine grdE h (fun hb h => ?_)
          refine g_iald (f := (S.2 27)) C 56 14 rfl hb dX8_findQueue_55 rfl ?_
          refine g_iadd C 57 dX8_findQueue_56 rfl ?_
          refine g_goto C 61 dX8_findQueue_57 (by decide) ?_
          exact J_61 _ _ _ h
    intro v2 S h
    unfold b_X8_findQueue_2 at h
    refine g_iload_n C 3 2 dX8_findQueue_2 rfl rfl ?_
    refine g_iconst C 4 (1 : Int32) dX8_findQueue_3 rfl rfl ?_
    refine g_aload_n C 5 0 dX8_findQueue_4 rfl rfl ?_
    refine g_get (v := .int (S.1 9)) C 8 8 0 9 hin_8 rfl rfl (by decide) wf_X8_67 rfl dX8_findQueue_5 rfl ?_
    refine g_ishl C 9 dX8_findQueue_8 rfl ?_
    refine g_icmp_ge C 103 12 dX8_findQueue_9 (by decide) rfl (fun c => ?_) (fun c => ?_)
    · have h := ifT c h
      exact g_vret (st := []) C E dX8_findQueue_103 (by obtain rfl := Option.some.inj h; exact ⟨rfl, rfl⟩)
    · have h := ifF c h
      refine g_aload_n C 13 0 dX8_findQueue_12 rfl rfl ?_
      refine g_get (v := .ref (u 27)) C 16 8 0 27 hin_8 rfl rfl (by decide) wf_X8_49 rfl dX8_findQueue_13 rfl ?_
      refine g_iload_n C 17 2 dX8_findQueue_16 rfl rfl ?_
      refine g_iconst C 18 (0 : Int32) dX8_findQueue_17 rfl rfl ?_
      refine grdE h (fun hb h => ?_)
      refine g_iast (f := (S.2 27)) (w' := (cells8 L o u (sa S 27 (upd (S.2 27) (v2).toNatClampNeg (0 : Int32))))) C 19 14 rfl hb dX8_findQueue_18 rfl rfl ?_
      refine g_iconst C 20 (0 : Int32) dX8_findQueue_19 rfl rfl ?_
      refine g_istore_n C 21 3 [(3, .int (0 : Int32)), (0, .ref o), (1, .int v1), (2, .int v2)] dX8_findQueue_20 rfl rfl 5 hNL (by decide) rfl ?_
      refine g_lv (lv' := [(0, .ref o), (1, .int v1), (2, .int v2), (3, .int (0 : Int32))]) [1, 2, 3, 0] rfl ?_
      exact J_21 _ _ _ _ h
  unfold f_X8_findQueue at h
  refine g_iconst C 1 (0 : Int32) dX8_findQueue_0 rfl rfl ?_
  refine g_istore_n C 2 2 [(2, .int (0 : Int32)), (0, .ref o), (1, .int v1)] dX8_findQueue_1 rfl rfl 5 hNL (by decide) rfl ?_
  refine g_lv (lv' := [(0, .ref o), (1, .int v1), (2, .int (0 : Int32))]) [1, 2, 0] rfl ?_
  exact J_2 _ _ _ _ h
set_option maxHeartbeats 4000000 in
set_option maxRecDepth 100000 in
theorem ct_X8_queue (L : LL) (o : Nat) (u : Nat → Nat) (S : OS) (v1 : Int32) (v2 : Int32) (x : (Int32 × OS)) (h : f_X8_queue S v1 v2 = some x) : Ct L yX8_queue cX8_queue 7 (some .int) (rmk 8 0 0 189) 0 0 [.ref o, .int v1, .int v2] (cells8 L o u S) (Pv (some (.int x.1)) (cells8 L o u x.2)) := by
  refine g_enter (lv := [(0, .ref o), (1, .int v1), (2, .int v2)]) kX8_queue rfl rfl (Nat.le_of_ble_eq_true rfl) (fun Γ C E hNL => ?_)
  have J_78 : ∀ (n : Nat) (v1 : Int32) (v2 : Int32) (S : OS) (v4 : Int32) (v5 : Int32) (v6 : Int32), Lp3 (b_X8_queue_78   v1 v2 S) n v4 v5 v6 = some x → G L Γ 0 0 (cells8 L o u S) 78 [(0, .ref o), (1, .int v1), (2, .int v2), (4, .int v4), (5, .int v5), (6, .int v6)] [] := by
    intro n v1 v2 S
    refine lp_ok3 (fun v4 v5 v6 => G L Γ 0 0 (cells8 L o u S) 78 [(0, .ref o), (1, .int v1), (2, .int v2), (4, .int v4), (5, .int v5), (6, .int v6)] []) (fun k_78 hk_78 => ?_) n
    have J_137 : ∀ (v4 : Int32) (v5 : Int32) (v6 : Int32), j_X8_queue_137  k_78 v1 v2 v4 v5 v6 S = some x → G L Γ 0 0 (cells8 L o u S) 137 [(0, .ref o), (1, .int v1), (2, .int v2), (4, .int v4), (5, .int v5), (6, .int v6)] [] := by
      intro v4 v5 v6 h
      unfold j_X8_queue_137 at h
      refine g_iload C 139 3 dX8_queue_137 rfl rfl ?_
      refine g_iconst C 140 (1 : Int32) dX8_queue_139 rfl rfl ?_
      refine g_iload C 142 4 dX8_queue_140 rfl rfl ?_
      refine g_ishl C 143 dX8_queue_142 rfl ?_
      refine g_iconst C 144 (-1 : Int32) dX8_queue_143 rfl rfl ?_
      refine g_ixor C 145 dX8_queue_144 rfl ?_
      refine g_iand C 146 dX8_queue_145 rfl ?_
      refine g_istore C 148 4 [(4, .int (v4 &&& (((1 : Int32) <<< (v5 &&& 31)) ^^^ (-1 : Int32)))), (0, .ref o), (1, .int v1), (2, .int v2), (5, .int v5), (6, .int v6)] dX8_queue_146 rfl 7 hNL (by decide) rfl ?_
      refine g_iinc C 151 (1 : Int32) 5 [(6, .int (v6 + (1 : Int32))), (4, .int (v4 &&& (((1 : Int32) <<< (v5 &&& 31)) ^^^ (-1 : Int32)))), (0, .ref o), (1, .int v1), (2, .int v2), (5, .int v5)] dX8_queue_148 rfl rfl 7 hNL (by decide) rfl rfl ?_
      refine g_goto C 78 dX8_queue_151 (by decide) ?_
      refine g_lv (lv' := [(0, .ref o), (1, .int v1), (2, .int v2), (4, .int (v4 &&& (((1 : Int32) <<< (v5 &&& 31)) ^^^ (-1 : Int32)))), (5, .int v5), (6, .int (v6 + (1 : Int32)))]) [2, 3, 4, 1, 5, 0] rfl ?_
      exact hk_78 _ _ _ h
    have J_87 : ∀ (n : Nat) (v4 : Int32) (v6 : Int32) (v5 : Int32), Lp1 (b_X8_queue_87  k_78 v1 v2 v4 v6 S) n v5 = some x → G L Γ 0 0 (cells8 L o u S) 87 [(0, .ref o), (1, .int v1), (2, .int v2), (4, .int v4), (5, .int v5), (6, .int v6)] [] := by
      intro n v4 v6
      refine lp_ok1 (fun v5 => G L Γ 0 0 (cells8 L o u S) 87 [(0, .ref o), (1, .int v1), (2, .int v2), (4, .int v4), (5, .int v5), (6, .int v6)] []) (fun k_87 hk_87 => ?_) n
      have J_131 : ∀ (v5 : Int32), j_X8_queue_131  k_78 k_87 v1 v2 v4 v5 v6 S = some x → G L Γ 0 0 (cells8 L o u S) 131 [(0, .ref o), (1, .int v1), (2, .int v2), (4, .int v4), (5, .int v5), (6, .int v6)] [] := by
        intro v5 h
        unfold j_X8_queue_131 at h
        refine g_iinc C 134 (1 : Int32) 4 [(5, .int (v5 + (1 : Int32))), (0, .ref o), (1, .int v1), (2, .int v2), (4, .int v4), (6, .int v6)] dX8_queue_131 rfl rfl 7 hNL (by decide) rfl rfl ?_
        refine g_goto C 87 dX8_queue_134 (by decide) ?_
        refine g_lv (lv' := [(0, .ref o), (1, .int v1), (2, .int v2), (4, .int v4), (5, .int (v5 + (1 : Int32))), (6, .int v6)]) [1, 2, 3, 4, 0, 5] rfl ?_
        exact hk_87 _ h
      intro v5 h
      unfold b_X8_queue_87 at h
      refine g_iload C 89 3 dX8_queue_87 rfl rfl ?_
      refine g_iload C 91 4 dX8_queue_89 rfl rfl ?_
      refine bnd h (fun x4 e4 h => ?_)
      refine g_callSr C 94 [] [.int x4] (ct_X8_has L v4 v5 x4 e4) kX8_has kvX8_has wl_X8_173 [] rfl rfl rfl rfl rfl (Nat.le_of_ble_eq_true rfl) ⟨Nat.le_of_ble_eq_true rfl, Nat.le_of_ble_eq_true rfl⟩ ⟨Nat.zero_le _, Nat.zero_le _⟩ dX8_queue_91 rfl ?_
      refine g_if_eq C 131 97 dX8_queue_94 (by decide) rfl (fun c => ?_) (fun c => ?_)
      · have h := ifT c h
        exact J_131 _ h
      · have h := ifF c h
        refine g_aload_n C 98 0 dX8_queue_97 rfl rfl ?_
        refine g_iload C 100 4 dX8_queue_98 rfl rfl ?_
        refine g_iload_n C 101 1 dX8_queue_100 rfl rfl ?_
        refine g_iload C 103 3 dX8_queue_101 rfl rfl ?_
        refine bnd h (fun x5 e5 h => ?_)
        refine g_callVs (w' := (cells8 L o u S)) C 106 [] [.int x5] (ct_X8_passesLater L o u S v5 v1 v4 x5 e5) kX8_passesLater kvX8_passesLater wl_X8_252 8 0 rfl rfl rfl rfl rfl rfl rfl (Nat.le_of_ble_eq_true rfl) ⟨Nat.le_of_ble_eq_true rfl, Nat.le_of_ble_eq_true rfl⟩ ⟨Nat.zero_le _, Nat.zero_le _⟩ dX8_queue_103 rfl ?_
        refine g_aload_n C 107 0 dX8_queue_106 rfl rfl ?_
        refine g_get (v := .ref (u 27)) C 110 8 0 27 hin_8 rfl rfl (by decide) wf_X8_49 rfl dX8_queue_107 rfl ?_
        refine g_iload C 112 3 dX8_queue_110 rfl rfl ?_
        refine g_iconst C 113 (1 : Int32) dX8_queue_112 rfl rfl ?_
        refine g_iload C 115 4 dX8_queue_113 rfl rfl ?_
        refine g_ishl C 116 dX8_queue_115 rfl ?_
        refine g_iconst C 117 (-1 : Int32) dX8_queue_116 rfl rfl ?_
        refine g_ixor C 118 dX8_queue_117 rfl ?_
        refine g_iand C 119 dX8_queue_118 rfl ?_
        refine grdE h (fun hb h => ?_)
        refine g_iald (f := (S.2 27)) C 120 14 rfl hb dX8_queue_119 rfl ?_
        refine g_iadd C 121 dX8_queue_120 rfl ?_
        refine g_aload_n C 122 0 dX8_queue_121 rfl rfl ?_
        refine g_get (v := .ref (u 27)) C 125 8 0 27 hin_8 rfl rfl (by decide) wf_X8_49 rfl dX8_queue_122 rfl ?_
        refine g_iload C 127 3 dX8_queue_125 rfl rfl ?_
        refine grdE h (fun hb h => ?_)
        refine g_iald (f := (S.2 27)) C 128 14 rfl hb dX8_queue_127 rfl ?_
        refine g_icmp_eq C 137 131 dX8_queue_128 (by decide) rfl (fun c => ?_) (fun c => ?_)
        · have h := ifT c h
          exact J_137 _ _ _ h
        · have h := ifF c h
          exact J_131 _ h
    intro v4 v5 v6 h
    unfold b_X8_queue_78 at h
    refine g_iload C 80 5 dX8_queue_78 rfl rfl ?_
    refine g_iload_n C 81 2 dX8_queue_80 rfl rfl ?_
    refine g_icmp_gt C 154 84 dX8_queue_81 (by decide) rfl (fun c => ?_) (fun c => ?_)
    · have h := ifT c h
      refine g_iload C 156 4 dX8_queue_154 rfl rfl ?_
      exact g_iret (st := []) C E dX8_queue_156 (by obtain rfl := Option.some.inj h; exact ⟨rfl, rfl⟩)
    · have h := ifF c h
      refine g_iconst C 85 (0 : Int32) dX8_queue_84 rfl rfl ?_
      refine g_istore C 87 5 [(5, .int (0 : Int32)), (0, .ref o), (1, .int v1), (2, .int v2), (4, .int v4), (6, .int v6)] dX8_queue_85 rfl 7 hNL (by decide) rfl ?_
      refine g_lv (lv' := [(0, .ref o), (1, .int v1), (2, .int v2), (4, .int v4), (5, .int (0 : Int32)), (6, .int v6)]) [1, 2, 3, 4, 0, 5] rfl ?_
      exact J_87 _ _ _ _ h
  have J_23 : ∀ (v1 : Int32) (v2 : Int32) (s0 : Int32) (S : OS), j_X8_queue_23   v1 v2 s0 S = some x → G L Γ 0 0 (cells8 L o u S) 23 [(0, .ref o), (1, .int v1), (2, .int v2)] [.int s0] := by
    intro v1 v2 s0 S h
    unfold j_X8_queue_23 at h
    refine g_istore_n C 24 3 [(3, .int s0), (0, .ref o), (1, .int v1), (2, .int v2)] dX8_queue_23 rfl rfl 7 hNL (by decide) rfl ?_
    refine g_iload_n C 25 0 dX8_queue_24 rfl rfl ?_
    refine g_if_eq C 34 28 dX8_queue_25 (by decide) rfl (fun c => ?_) (fun c => ?_)
    · have h := ifT c h
      refine g_aload_n C 35 1 dX8_queue_34 rfl rfl ?_
      refine g_iload_n C 36 2 dX8_queue_35 rfl rfl ?_
      refine bnd h (fun x2 e2 h => ?_)
      refine g_callVs (w' := (cells8 L o u x2)) C 39 [] [] (ct_X8_findQueue L o u S v1 x2 e2) kX8_findQueue kvX8_findQueue wl_X8_255 8 0 rfl rfl rfl rfl rfl rfl rfl (Nat.le_of_ble_eq_true rfl) ⟨Nat.le_of_ble_eq_true rfl, Nat.le_of_ble_eq_true rfl⟩ ⟨Nat.zero_le _, Nat.zero_le _⟩ dX8_queue_36 rfl ?_
      refine g_iconst C 40 (1 : Int32) dX8_queue_39 rfl rfl ?_
      refine g_aload_n C 41 1 dX8_queue_40 rfl rfl ?_
      refine g_get (v := .int (x2.1 9)) C 44 8 0 9 hin_8 rfl rfl (by decide) wf_X8_67 rfl dX8_queue_41 rfl ?_
      refine g_ishl C 45 dX8_queue_44 rfl ?_
      refine g_iconst C 46 (1 : Int32) dX8_queue_45 rfl rfl ?_
      refine g_isub C 47 dX8_queue_46 rfl ?_
      refine g_istore C 49 4 [(4, .int (((1 : Int32) <<< ((x2.1 9) &&& 31)) - (1 : Int32))), (3, .int s0), (0, .ref o), (1, .int v1), (2, .int v2)] dX8_queue_47 rfl 7 hNL (by decide) rfl ?_
      refine g_iload_n C 50 4 dX8_queue_49 rfl rfl ?_
      refine g_if_ge C 61 53 dX8_queue_50 (by decide) rfl (fun c => ?_) (fun c => ?_)
      · have h := ifT c h
        refine g_iload_n C 62 4 dX8_queue_61 rfl rfl ?_
        refine g_aload_n C 63 2 dX8_queue_62 rfl rfl ?_
        refine g_get (v := .int (x2.1 9)) C 66 8 0 9 hin_8 rfl rfl (by decide) wf_X8_67 rfl dX8_queue_63 rfl ?_
        refine g_icmp_lt C 72 69 dX8_queue_66 (by decide) rfl (fun c => ?_) (fun c => ?_)
        · have h := ifT c h
          refine g_iconst C 73 (0 : Int32) dX8_queue_72 rfl rfl ?_
          refine g_istore C 75 5 [(5, .int (0 : Int32)), (4, .int (((1 : Int32) <<< ((x2.1 9) &&& 31)) - (1 : Int32))), (3, .int s0), (0, .ref o), (1, .int v1), (2, .int v2)] dX8_queue_73 rfl 7 hNL (by decide) rfl ?_
          refine g_iconst C 76 (0 : Int32) dX8_queue_75 rfl rfl ?_
          refine g_istore C 78 6 [(6, .int (0 : Int32)), (5, .int (0 : Int32)), (4, .int (((1 : Int32) <<< ((x2.1 9) &&& 31)) - (1 : Int32))), (3, .int s0), (0, .ref o), (1, .int v1), (2, .int v2)] dX8_queue_76 rfl 7 hNL (by decide) rfl ?_
          refine g_lv (lv' := [(0, .ref o), (1, .int v1), (2, .int v2), (4, .int (((1 : Int32) <<< ((x2.1 9) &&& 31)) - (1 : Int32))), (5, .int (0 : Int32)), (6, .int (0 : Int32))]) [4, 5, 6, 2, 1, 0] rfl ?_
          exact J_78 _ _ _ _ _ _ _ h
        · have h := ifF c h
          refine g_bipush C 71 (-9 : Int32) dX8_queue_69 rfl rfl ?_
          exact g_iret (st := []) C E dX8_queue_71 (by obtain rfl := Option.some.inj h; exact ⟨rfl, rfl⟩)
      · have h := ifF c h
        refine g_aload_n C 54 2 dX8_queue_53 rfl rfl ?_
        refine g_get (v := .ref (u 27)) C 57 8 0 27 hin_8 rfl rfl (by decide) wf_X8_49 rfl dX8_queue_54 rfl ?_
        refine g_iload C 59 0 dX8_queue_57 rfl rfl ?_
        refine grdE h (fun hb h => ?_)
        refine g_iald (f := (x2.2 27)) C 60 14 rfl hb dX8_queue_59 rfl ?_
        exact g_iret (st := []) C E dX8_queue_60 (by obtain rfl := Option.some.inj h; exact ⟨rfl, rfl⟩)
    · have h := ifF c h
      refine g_aload_n C 29 1 dX8_queue_28 rfl rfl ?_
      refine g_iload_n C 30 0 dX8_queue_29 rfl rfl ?_
      refine bnd h (fun x3 e3 h => ?_)
      refine g_callVs (w' := (cells8 L o u x3.2)) C 33 [] [.int x3.1] (ct_X8_no L o u S s0 x3 e3) kX8_no kvX8_no wl_X8_77 8 0 rfl rfl rfl rfl rfl rfl rfl (Nat.le_of_ble_eq_true rfl) ⟨Nat.le_of_ble_eq_true rfl, Nat.le_of_ble_eq_true rfl⟩ ⟨Nat.zero_le _, Nat.zero_le _⟩ dX8_queue_30 rfl ?_
      exact g_iret (st := []) C E dX8_queue_33 (by obtain rfl := Option.some.inj h; exact ⟨rfl, rfl⟩)
  unfold f_X8_queue at h
  refine g_aload_n C 1 0 dX8_queue_0 rfl rfl ?_
  refine g_iload_n C 2 1 dX8_queue_1 rfl rfl ?_
  refine bnd h (fun x1 e1 h => ?_)
  refine g_callVs (w' := (cells8 L o u S)) C 5 [] [.int x1] (ct_X8_isWay L o u S v1 x1 e1) kX8_isWay kvX8_isWay wl_X8_120 8 0 rfl rfl rfl rfl rfl rfl rfl (Nat.le_of_ble_eq_true rfl) ⟨Nat.le_of_ble_eq_true rfl, Nat.le_of_ble_eq_true rfl⟩ ⟨Nat.zero_le _, Nat.zero_le _⟩ dX8_queue_2 rfl ?_
  refine g_if_ne C 12 8 dX8_queue_5 (by decide) rfl (fun c => ?_) (fun c => ?_)
  · have h := ifF c h
    refine g_iload_n C 13 2 dX8_queue_12 rfl rfl ?_
    refine g_iconst C 14 (-1 : Int32) dX8_queue_13 rfl rfl ?_
    refine g_icmp_ge C 22 17 dX8_queue_14 (by decide) rfl (fun c => ?_) (fun c => ?_)
    · have h := ifT c h
      refine g_iconst C 23 (0 : Int32) dX8_queue_22 rfl rfl ?_
      exact J_23 _ _ _ _ h
    · have h := ifF c h
      refine g_bipush C 19 (-4 : Int32) dX8_queue_17 rfl rfl ?_
      refine g_goto C 23 dX8_queue_19 (by decide) ?_
      exact J_23 _ _ _ _ h
  · have h := ifT c h
    refine g_iconst C 9 (-1 : Int32) dX8_queue_8 rfl rfl ?_
    refine g_goto C 23 dX8_queue_9 (by decide) ?_
    exact J_23 _ _ _ _ h
set_option maxHeartbeats 4000000 in
set_option maxRecDepth 100000 in
theorem ct_X8_lessons (L : LL) (o : Nat) (u : Nat → Nat) (S : OS) (v1 : Int32) (v2 : Int32) (v3 : Int32) (x : (Int32 × OS)) (h : f_X8_lessons S v1 v2 v3 = some x) : Ct L yX8_lessons cX8_lessons 7 (some .int) (rmk 8 0 0 192) 0 0 [.ref o, .int v1, .int v2, .int v3] (cells8 L o u S) (Pv (some (.int x.1)) (cells8 L o u x.2)) := by
  refine g_enter (lv := [(0, .ref o), (1, .int v1), (2, .int v2), (3, .int v3)]) kX8_lessons rfl rfl (Nat.le_of_ble_eq_true rfl) (fun Γ C E hNL => ?_)
  have J_93 : ∀ (v1 : Int32) (v2 : Int32) (v3 : Int32) (v4 : Int32) (v5 : Int32) (S : OS), j_X8_lessons_93   v1 v2 v3 v4 v5 S = some x → G L Γ 0 0 (cells8 L o u S) 93 [(0, .ref o), (1, .int v1), (2, .int v2), (3, .int v3), (4, .int v4), (5, .int v5)] [] := by
    intro v1 v2 v3 v4 v5 S h
    unfold j_X8_lessons_93 at h
    refine g_aload_n C 94 0 dX8_lessons_93 rfl rfl ?_
    refine g_iload_n C 95 1 dX8_lessons_94 rfl rfl ?_
    refine g_iload_n C 96 2 dX8_lessons_95 rfl rfl ?_
    refine g_iload_n C 97 3 dX8_lessons_96 rfl rfl ?_
    refine g_iload C 99 4 dX8_lessons_97 rfl rfl ?_
    refine bnd h (fun x5 e5 h => ?_)
    refine g_callVs (w' := (cells8 L o u x5.2)) C 102 [] [.int x5.1] (ct_X8_passesKnowing L o u S v1 v2 v3 v4 x5 e5) kX8_passesKnowing kvX8_passesKnowing wl_X8_215 8 0 rfl rfl rfl rfl rfl rfl rfl (Nat.le_of_ble_eq_true rfl) ⟨Nat.le_of_ble_eq_true rfl, Nat.le_of_ble_eq_true rfl⟩ ⟨Nat.zero_le _, Nat.zero_le _⟩ dX8_lessons_99 rfl ?_
    refine g_if_eq C 110 105 dX8_lessons_102 (by decide) rfl (fun c => ?_) (fun c => ?_)
    · have h := ifT c h
      refine g_bipush C 112 (-9 : Int32) dX8_lessons_110 rfl rfl ?_
      exact g_iret (st := []) C E dX8_lessons_112 (by obtain rfl := Option.some.inj h; exact ⟨rfl, rfl⟩)
    · have h := ifF c h
      refine g_iload C 107 5 dX8_lessons_105 rfl rfl ?_
      refine g_goto C 112 dX8_lessons_107 (by decide) ?_
      exact g_iret (st := []) C E dX8_lessons_112 (by obtain rfl := Option.some.inj h; exact ⟨rfl, rfl⟩)
  have J_25 : ∀ (n : Nat) (v1 : Int32) (v2 : Int32) (v3 : Int32) (v4 : Int32) (v5 : Int32) (v6 : Int32) (S : OS), Lp4 (b_X8_lessons_25   v1 v2 v3) n v4 v5 v6 S = some x → G L Γ 0 0 (cells8 L o u S) 25 [(0, .ref o), (1, .int v1), (2, .int v2), (3, .int v3), (4, .int v4), (5, .int v5), (6, .int v6)] [] := by
    intro n v1 v2 v3
    refine lp_ok4 (fun v4 v5 v6 S => G L Γ 0 0 (cells8 L o u S) 25 [(0, .ref o), (1, .int v1), (2, .int v2), (3, .int v3), (4, .int v4), (5, .int v5), (6, .int v6)] []) (fun k_25 hk_25 => ?_) n
    have J_87 : ∀ (v4 : Int32) (v5 : Int32) (v6 : Int32) (S : OS), j_X8_lessons_87  k_25 v1 v2 v3 v4 v5 v6 S = some x → G L Γ 0 0 (cells8 L o u S) 87 [(0, .ref o), (1, .int v1), (2, .int v2), (3, .int v3), (4, .int v4), (5, .int v5), (6, .int v6)] [] := by
      intro v4 v5 v6 S h
      unfold j_X8_lessons_87 at h
      refine g_iinc C 90 (1 : Int32) 6 [(6, .int (v6 + (1 : Int32))), (0, .ref o), (1, .int v1), (2, .int v2), (3, .int v3), (4, .int v4), (5, .int v5)] dX8_lessons_87 rfl rfl 7 hNL (by decide) rfl rfl ?_
      refine g_goto C 25 dX8_lessons_90 (by decide) ?_
      refine g_lv (lv' := [(0, .ref o), (1, .int v1), (2, .int v2), (3, .int v3), (4, .int v4), (5, .int v5), (6, .int (v6 + (1 : Int32)))]) [1, 2, 3, 4, 5, 6, 0] rfl ?_
      exact hk_25 _ _ _ _ h
    intro v4 v5 v6 S h
    unfold b_X8_lessons_25 at h
    refine g_iload C 27 6 dX8_lessons_25 rfl rfl ?_
    refine g_aload_n C 28 0 dX8_lessons_27 rfl rfl ?_
    refine g_get (v := .int (S.1 7)) C 31 8 0 7 hin_8 rfl rfl (by decide) wf_X8_61 rfl dX8_lessons_28 rfl ?_
    refine g_icmp_ge C 93 34 dX8_lessons_31 (by decide) rfl (fun c => ?_) (fun c => ?_)
    · have h := ifT c h
      refine g_lv (lv' := [(0, .ref o), (1, .int v1), (2, .int v2), (3, .int v3), (4, .int v4), (5, .int v5)]) [0, 1, 2, 3, 4, 5] rfl ?_
      exact J_93 _ _ _ _ _ _ h
    · have h := ifF c h
      refine g_aload_n C 35 0 dX8_lessons_34 rfl rfl ?_
      refine g_get (v := .ref (u 4)) C 38 8 0 4 hin_8 rfl rfl (by decide) wf_X8_22 rfl dX8_lessons_35 rfl ?_
      refine g_iload_n C 39 2 dX8_lessons_38 rfl rfl ?_
      refine grdE h (fun hb h => ?_)
      refine g_iald (f := (S.2 4)) C 40 5 rfl hb dX8_lessons_39 rfl ?_
      refine g_aload_n C 41 0 dX8_lessons_40 rfl rfl ?_
      refine g_get (v := .ref (u 6)) C 44 8 0 6 hin_8 rfl rfl (by decide) wf_X8_28 rfl dX8_lessons_41 rfl ?_
      refine g_iload_n C 45 1 dX8_lessons_44 rfl rfl ?_
      refine grdE h (fun hb h => ?_)
      refine g_iald (f := (S.2 6)) C 46 7 rfl hb dX8_lessons_45 rfl ?_
      refine g_iconst C 47 (-1 : Int32) dX8_lessons_46 rfl rfl ?_
      refine g_ixor C 48 dX8_lessons_47 rfl ?_
      refine g_iand C 49 dX8_lessons_48 rfl ?_
      refine g_iload C 51 6 dX8_lessons_49 rfl rfl ?_
      refine bnd h (fun x3 e3 h => ?_)
      refine g_callSr C 54 [] [.int x3] (ct_X8_has L (((S.2 4) (v2).toNatClampNeg) &&& (((S.2 6) (v1).toNatClampNeg) ^^^ (-1 : Int32))) v6 x3 e3) kX8_has kvX8_has wl_X8_173 [] rfl rfl rfl rfl rfl (Nat.le_of_ble_eq_true rfl) ⟨Nat.le_of_ble_eq_true rfl, Nat.le_of_ble_eq_true rfl⟩ ⟨Nat.zero_le _, Nat.zero_le _⟩ dX8_lessons_51 rfl ?_
      refine g_if_ne C 60 57 dX8_lessons_54 (by decide) rfl (fun c => ?_) (fun c => ?_)
      · have h := ifF c h
        refine g_aload_n C 61 0 dX8_lessons_60 rfl rfl ?_
        refine g_iload_n C 62 1 dX8_lessons_61 rfl rfl ?_
        refine g_iload_n C 63 2 dX8_lessons_62 rfl rfl ?_
        refine g_iload_n C 64 3 dX8_lessons_63 rfl rfl ?_
        refine g_iload C 66 4 dX8_lessons_64 rfl rfl ?_
        refine bnd h (fun x4 e4 h => ?_)
        refine g_callVs (w' := (cells8 L o u x4.2)) C 69 [] [.int x4.1] (ct_X8_passesKnowing L o u S v1 v2 v3 v4 x4 e4) kX8_passesKnowing kvX8_passesKnowing wl_X8_215 8 0 rfl rfl rfl rfl rfl rfl rfl (Nat.le_of_ble_eq_true rfl) ⟨Nat.le_of_ble_eq_true rfl, Nat.le_of_ble_eq_true rfl⟩ ⟨Nat.zero_le _, Nat.zero_le _⟩ dX8_lessons_66 rfl ?_
        refine g_if_eq C 75 72 dX8_lessons_69 (by decide) rfl (fun c => ?_) (fun c => ?_)
        · have h := ifT c h
          refine g_iload C 77 4 dX8_lessons_75 rfl rfl ?_
          refine g_iconst C 78 (1 : Int32) dX8_lessons_77 rfl rfl ?_
          refine g_iload C 80 6 dX8_lessons_78 rfl rfl ?_
          refine g_ishl C 81 dX8_lessons_80 rfl ?_
          refine g_ior C 82 dX8_lessons_81 rfl ?_
          refine g_istore C 84 4 [(4, .int (v4 ||| ((1 : Int32) <<< (v6 &&& 31)))), (0, .ref o), (1, .int v1), (2, .int v2), (3, .int v3), (5, .int v5), (6, .int v6)] dX8_lessons_82 rfl 7 hNL (by decide) rfl ?_
          refine g_iinc C 87 (1 : Int32) 5 [(5, .int (v5 + (1 : Int32))), (4, .int (v4 ||| ((1 : Int32) <<< (v6 &&& 31)))), (0, .ref o), (1, .int v1), (2, .int v2), (3, .int v3), (6, .int v6)] dX8_lessons_84 rfl rfl 7 hNL (by decide) rfl rfl ?_
          refine g_lv (lv' := [(0, .ref o), (1, .int v1), (2, .int v2), (3, .int v3), (4, .int (v4 ||| ((1 : Int32) <<< (v6 &&& 31)))), (5, .int (v5 + (1 : Int32))), (6, .int v6)]) [2, 3, 4, 5, 1, 0, 6] rfl ?_
          exact J_87 _ _ _ _ h
        · have h := ifF c h
          refine g_iload C 74 5 dX8_lessons_72 rfl rfl ?_
          exact g_iret (st := []) C E dX8_lessons_74 (by obtain rfl := Option.some.inj h; exact ⟨rfl, rfl⟩)
      · have h := ifT c h
        refine g_goto C 87 dX8_lessons_57 (by decide) ?_
        exact J_87 _ _ _ _ h
  unfold f_X8_lessons at h
  refine g_aload_n C 1 0 dX8_lessons_0 rfl rfl ?_
  refine g_iload_n C 2 1 dX8_lessons_1 rfl rfl ?_
  refine g_iload_n C 3 2 dX8_lessons_2 rfl rfl ?_
  refine g_iload_n C 4 3 dX8_lessons_3 rfl rfl ?_
  refine bnd h (fun x1 e1 h => ?_)
  refine g_callVs (w' := (cells8 L o u S)) C 7 [] [.int x1] (ct_X8_areAll L o u S v1 v2 v3 x1 e1) kX8_areAll kvX8_areAll wl_X8_203 8 0 rfl rfl rfl rfl rfl rfl rfl (Nat.le_of_ble_eq_true rfl) ⟨Nat.le_of_ble_eq_true rfl, Nat.le_of_ble_eq_true rfl⟩ ⟨Nat.zero_le _, Nat.zero_le _⟩ dX8_lessons_4 rfl ?_
  refine g_if_ne C 16 10 dX8_lessons_7 (by decide) rfl (fun c => ?_) (fun c => ?_)
  · have h := ifF c h
    refine g_iconst C 17 (0 : Int32) dX8_lessons_16 rfl rfl ?_
    refine g_istore C 19 4 [(4, .int (0 : Int32)), (0, .ref o), (1, .int v1), (2, .int v2), (3, .int v3)] dX8_lessons_17 rfl 7 hNL (by decide) rfl ?_
    refine g_iconst C 20 (0 : Int32) dX8_lessons_19 rfl rfl ?_
    refine g_istore C 22 5 [(5, .int (0 : Int32)), (4, .int (0 : Int32)), (0, .ref o), (1, .int v1), (2, .int v2), (3, .int v3)] dX8_lessons_20 rfl 7 hNL (by decide) rfl ?_
    refine g_iconst C 23 (0 : Int32) dX8_lessons_22 rfl rfl ?_
    refine g_istore C 25 6 [(6, .int (0 : Int32)), (5, .int (0 : Int32)), (4, .int (0 : Int32)), (0, .ref o), (1, .int v1), (2, .int v2), (3, .int v3)] dX8_lessons_23 rfl 7 hNL (by decide) rfl ?_
    refine g_lv (lv' := [(0, .ref o), (1, .int v1), (2, .int v2), (3, .int v3), (4, .int (0 : Int32)), (5, .int (0 : Int32)), (6, .int (0 : Int32))]) [3, 4, 5, 6, 2, 1, 0] rfl ?_
    exact J_25 _ _ _ _ _ _ _ _ h
  · have h := ifT c h
    refine g_aload_n C 11 0 dX8_lessons_10 rfl rfl ?_
    refine g_iconst C 12 (-1 : Int32) dX8_lessons_11 rfl rfl ?_
    refine bnd h (fun x2 e2 h => ?_)
    refine g_callVs (w' := (cells8 L o u x2.2)) C 15 [] [.int x2.1] (ct_X8_no L o u S (-1 : Int32) x2 e2) kX8_no kvX8_no wl_X8_77 8 0 rfl rfl rfl rfl rfl rfl rfl (Nat.le_of_ble_eq_true rfl) ⟨Nat.le_of_ble_eq_true rfl, Nat.le_of_ble_eq_true rfl⟩ ⟨Nat.zero_le _, Nat.zero_le _⟩ dX8_lessons_12 rfl ?_
    exact g_iret (st := []) C E dX8_lessons_15 (by obtain rfl := Option.some.inj h; exact ⟨rfl, rfl⟩)
set_option maxHeartbeats 4000000 in
set_option maxRecDepth 100000 in
theorem ct_X8_passesBalls (L : LL) (o : Nat) (u : Nat → Nat) (S : OS) (v1 : Int32) (v2 : Int32) (v3 : Int32) (x : Int32) (h : f_X8_passesBalls S v1 v2 v3 = some x) : Ct L yX8_passesBalls cX8_passesBalls 7 (some .boolean) (rmk 3 0 0 70) 0 0 [.ref o, .int v1, .int v2, .int v3] (cells8 L o u S) (Pv (some (.int x)) (cells8 L o u S)) := by
  refine g_enter (lv := [(0, .ref o), (1, .int v1), (2, .int v2), (3, .int v3)]) kX8_passesBalls rfl rfl (Nat.le_of_ble_eq_true rfl) (fun Γ C E hNL => ?_)
  have J_81 : ∀ (v4 : Int32), j_X8_passesBalls_81 S  v4 = some x → G L Γ 0 0 (cells8 L o u S) 81 [(0, .ref o), (4, .int v4)] [] := by
    intro v4 h
    unfold j_X8_passesBalls_81 at h
    refine g_iload C 83 1 dX8_passesBalls_81 rfl rfl ?_
    refine g_aload_n C 84 0 dX8_passesBalls_83 rfl rfl ?_
    refine g_get (v := .int (S.1 11)) C 87 8 0 11 hin_8 rfl rfl (by decide) wf_X8_56 rfl dX8_passesBalls_84 rfl ?_
    refine g_icmp_gt C 94 90 dX8_passesBalls_87 (by decide) rfl (fun c => ?_) (fun c => ?_)
    · have h := ifT c h
      refine g_iconst C 95 (0 : Int32) dX8_passesBalls_94 rfl rfl ?_
      exact g_zret (st := []) C E dX8_passesBalls_95 rfl (by obtain rfl := Option.some.inj h; exact ⟨rfl, rfl⟩)
    · have h := ifF c h
      refine g_iconst C 91 (1 : Int32) dX8_passesBalls_90 rfl rfl ?_
      refine g_goto C 95 dX8_passesBalls_91 (by decide) ?_
      exact g_zret (st := []) C E dX8_passesBalls_95 rfl (by obtain rfl := Option.some.inj h; exact ⟨rfl, rfl⟩)
  have J_6 : ∀ (n : Nat) (v1 : Int32) (v2 : Int32) (v3 : Int32) (v4 : Int32) (v5 : Int32), Lp2 (b_X8_passesBalls_6 S  v1 v2 v3) n v4 v5 = some x → G L Γ 0 0 (cells8 L o u S) 6 [(0, .ref o), (1, .int v1), (2, .int v2), (3, .int v3), (4, .int v4), (5, .int v5)] [] := by
    intro n v1 v2 v3
    refine lp_ok2 (fun v4 v5 => G L Γ 0 0 (cells8 L o u S) 6 [(0, .ref o), (1, .int v1), (2, .int v2), (3, .int v3), (4, .int v4), (5, .int v5)] []) (fun k_6 hk_6 => ?_) n
    have J_75 : ∀ (v4 : Int32) (v5 : Int32), j_X8_passesBalls_75 S k_6 v1 v2 v3 v4 v5 = some x → G L Γ 0 0 (cells8 L o u S) 75 [(0, .ref o), (1, .int v1), (2, .int v2), (3, .int v3), (4, .int v4), (5, .int v5)] [] := by
      intro v4 v5 h
      unfold j_X8_passesBalls_75 at h
      refine g_iinc C 78 (1 : Int32) 5 [(5, .int (v5 + (1 : Int32))), (0, .ref o), (1, .int v1), (2, .int v2), (3, .int v3), (4, .int v4)] dX8_passesBalls_75 rfl rfl 7 hNL (by decide) rfl rfl ?_
      refine g_goto C 6 dX8_passesBalls_78 (by decide) ?_
      refine g_lv (lv' := [(0, .ref o), (1, .int v1), (2, .int v2), (3, .int v3), (4, .int v4), (5, .int (v5 + (1 : Int32)))]) [1, 2, 3, 4, 5, 0] rfl ?_
      exact hk_6 _ _ h
    have J_57 : ∀ (v4 : Int32) (v5 : Int32) (s0 : Int32) (s1 : Int32), j_X8_passesBalls_57 S k_6 v1 v2 v3 v4 v5 s0 s1 = some x → G L Γ 0 0 (cells8 L o u S) 57 [(0, .ref o), (1, .int v1), (2, .int v2), (3, .int v3), (4, .int v4), (5, .int v5)] [.int s0, .int s1] := by
      intro v4 v5 s0 s1 h
      unfold j_X8_passesBalls_57 at h
      refine g_iadd C 58 dX8_passesBalls_57 rfl ?_
      refine g_istore C 60 6 [(6, .int (s1 + s0)), (0, .ref o), (1, .int v1), (2, .int v2), (3, .int v3), (4, .int v4), (5, .int v5)] dX8_passesBalls_58 rfl 7 hNL (by decide) rfl ?_
      refine g_iload C 62 0 dX8_passesBalls_60 rfl rfl ?_
      refine g_iconst C 63 (5 : Int32) dX8_passesBalls_62 rfl rfl ?_
      refine g_icmp_le C 68 66 dX8_passesBalls_63 (by decide) rfl (fun c => ?_) (fun c => ?_)
      · have h := ifT c h
        refine g_iload C 70 5 dX8_passesBalls_68 rfl rfl ?_
        refine g_iload C 72 0 dX8_passesBalls_70 rfl rfl ?_
        refine g_iadd C 73 dX8_passesBalls_72 rfl ?_
        refine g_istore C 75 4 [(4, .int (v4 + (s1 + s0))), (6, .int (s1 + s0)), (0, .ref o), (1, .int v1), (2, .int v2), (3, .int v3), (5, .int v5)] dX8_passesBalls_73 rfl 7 hNL (by decide) rfl ?_
        refine g_lv (lv' := [(0, .ref o), (1, .int v1), (2, .int v2), (3, .int v3), (4, .int (v4 + (s1 + s0))), (5, .int v5)]) [2, 3, 4, 5, 0, 6] rfl ?_
        exact J_75 _ _ h
      · have h := ifF c h
        refine g_iconst C 67 (0 : Int32) dX8_passesBalls_66 rfl rfl ?_
        exact g_zret (st := []) C E dX8_passesBalls_67 rfl (by obtain rfl := Option.some.inj h; exact ⟨rfl, rfl⟩)
    intro v4 v5 h
    unfold b_X8_passesBalls_6 at h
    refine g_iload C 8 5 dX8_passesBalls_6 rfl rfl ?_
    refine g_aload_n C 9 0 dX8_passesBalls_8 rfl rfl ?_
    refine g_get (v := .int (S.1 7)) C 12 8 0 7 hin_8 rfl rfl (by decide) wf_X8_61 rfl dX8_passesBalls_9 rfl ?_
    refine g_icmp_ge C 81 15 dX8_passesBalls_12 (by decide) rfl (fun c => ?_) (fun c => ?_)
    · have h := ifT c h
      refine g_lv (lv' := [(0, .ref o), (4, .int v4)]) [0, 4] rfl ?_
      exact J_81 _ h
    · have h := ifF c h
      refine g_iload_n C 16 2 dX8_passesBalls_15 rfl rfl ?_
      refine g_iload C 18 5 dX8_passesBalls_16 rfl rfl ?_
      refine bnd h (fun x1 e1 h => ?_)
      refine g_callSr C 21 [] [.int x1] (ct_X8_has L v2 v5 x1 e1) kX8_has kvX8_has wl_X8_173 [] rfl rfl rfl rfl rfl (Nat.le_of_ble_eq_true rfl) ⟨Nat.le_of_ble_eq_true rfl, Nat.le_of_ble_eq_true rfl⟩ ⟨Nat.zero_le _, Nat.zero_le _⟩ dX8_passesBalls_18 rfl ?_
      refine g_if_ne C 27 24 dX8_passesBalls_21 (by decide) rfl (fun c => ?_) (fun c => ?_)
      · have h := ifF c h
        refine g_aload_n C 28 0 dX8_passesBalls_27 rfl rfl ?_
        refine g_iload_n C 29 1 dX8_passesBalls_28 rfl rfl ?_
        refine g_iload C 31 5 dX8_passesBalls_29 rfl rfl ?_
        refine g_aload_n C 32 0 dX8_passesBalls_31 rfl rfl ?_
        refine g_get (v := .int (S.1 10)) C 35 8 0 10 hin_8 rfl rfl (by decide) wf_X8_52 rfl dX8_passesBalls_32 rfl ?_
        refine bnd h (fun x2 e2 h => ?_)
        refine g_callVs (w' := (cells8 L o u S)) C 38 [] [.int x2] (ct_X8_faultsIn L o u S v1 v5 (S.1 10) x2 e2) kX8_faultsIn kvX8_faultsIn wl_X8_176 8 0 rfl rfl rfl rfl rfl rfl rfl (Nat.le_of_ble_eq_true rfl) ⟨Nat.le_of_ble_eq_true rfl, Nat.le_of_ble_eq_true rfl⟩ ⟨Nat.zero_le _, Nat.zero_le _⟩ dX8_passesBalls_35 rfl ?_
        refine g_iload_n C 39 3 dX8_passesBalls_38 rfl rfl ?_
        refine g_iload C 41 5 dX8_passesBalls_39 rfl rfl ?_
        refine bnd h (fun x3 e3 h => ?_)
        refine g_callSr C 44 [.int x2] [.int x3, .int x2] (ct_X8_has L v3 v5 x3 e3) kX8_has kvX8_has wl_X8_173 [] rfl rfl rfl rfl rfl (Nat.le_of_ble_eq_true rfl) ⟨Nat.le_of_ble_eq_true rfl, Nat.le_of_ble_eq_true rfl⟩ ⟨Nat.zero_le _, Nat.zero_le _⟩ dX8_passesBalls_41 rfl ?_
        refine g_if_eq C 56 47 dX8_passesBalls_44 (by decide) rfl (fun c => ?_) (fun c => ?_)
        · have h := ifT c h
          refine g_iconst C 57 (0 : Int32) dX8_passesBalls_56 rfl rfl ?_
          exact J_57 _ _ _ _ h
        · have h := ifF c h
          refine g_aload_n C 48 0 dX8_passesBalls_47 rfl rfl ?_
          refine g_iload C 50 5 dX8_passesBalls_48 rfl rfl ?_
          refine bnd h (fun x4 e4 h => ?_)
          refine g_callVs (w' := (cells8 L o u S)) C 53 [.int x2] [.int x4, .int x2] (ct_X8_ballOf L o u S v5 x4 e4) kX8_ballOf kvX8_ballOf wl_X8_188 8 0 rfl rfl rfl rfl rfl rfl rfl (Nat.le_of_ble_eq_true rfl) ⟨Nat.le_of_ble_eq_true rfl, Nat.le_of_ble_eq_true rfl⟩ ⟨Nat.zero_le _, Nat.zero_le _⟩ dX8_passesBalls_50 rfl ?_
          refine g_goto C 57 dX8_passesBalls_53 (by decide) ?_
          exact J_57 _ _ _ _ h
      · have h := ifT c h
        refine g_goto C 75 dX8_passesBalls_24 (by decide) ?_
        exact J_75 _ _ h
  unfold f_X8_passesBalls at h
  refine g_iconst C 1 (0 : Int32) dX8_passesBalls_0 rfl rfl ?_
  refine g_istore C 3 4 [(4, .int (0 : Int32)), (0, .ref o), (1, .int v1), (2, .int v2), (3, .int v3)] dX8_passesBalls_1 rfl 7 hNL (by decide) rfl ?_
  refine g_iconst C 4 (0 : Int32) dX8_passesBalls_3 rfl rfl ?_
  refine g_istore C 6 5 [(5, .int (0 : Int32)), (4, .int (0 : Int32)), (0, .ref o), (1, .int v1), (2, .int v2), (3, .int v3)] dX8_passesBalls_4 rfl 7 hNL (by decide) rfl ?_
  refine g_lv (lv' := [(0, .ref o), (1, .int v1), (2, .int v2), (3, .int v3), (4, .int (0 : Int32)), (5, .int (0 : Int32))]) [2, 3, 4, 5, 1, 0] rfl ?_
  exact J_6 _ _ _ _ _ _ h
set_option maxHeartbeats 4000000 in
set_option maxRecDepth 100000 in
theorem ct_X8_ball (L : LL) (o : Nat) (u : Nat → Nat) (S : OS) (v1 : Int32) (v2 : Int32) (v3 : Int32) (v4 : Int32) (x : (Int64 × OS)) (h : f_X8_ball S v1 v2 v3 v4 = some x) : Ct L yX8_ball cX8_ball 15 (some .long) (rmk 4 0 0 96) 0 0 [.ref o, .int v1, .int v2, .int v3, .int v4] (cells8 L o u S) (Pv (some (.long x.1)) (cells8 L o u x.2)) := by
  refine g_enter (lv := [(0, .ref o), (1, .int v1), (2, .int v2), (3, .int v3), (4, .int v4)]) kX8_ball rfl rfl (Nat.le_of_ble_eq_true rfl) (fun Γ C E hNL => ?_)
  have J_103 : ∀ (n : Nat) (v1 : Int32) (v3 : Int32) (v4 : Int32) (v6 : Int32) (v9 : Int64) (S : OS) (v7 : Int64) (v11 : Int32), Lp2 (b_X8_ball_103   v1 v3 v4 v6 v9 S) n v7 v11 = some x → G L Γ 0 0 (cells8 L o u S) 103 [(0, .ref o), (1, .int v1), (3, .int v3), (4, .int v4), (6, .int v6), (7, .long v7), (9, .long v9), (11, .int v11)] [] := by
    intro n v1 v3 v4 v6 v9 S
    refine lp_ok2 (fun v7 v11 => G L Γ 0 0 (cells8 L o u S) 103 [(0, .ref o), (1, .int v1), (3, .int v3), (4, .int v4), (6, .int v6), (7, .long v7), (9, .long v9), (11, .int v11)] []) (fun k_103 hk_103 => ?_) n
    have J_181 : ∀ (v7 : Int64) (v11 : Int32), j_X8_ball_181  k_103 v1 v3 v4 v6 v7 v9 v11 S = some x → G L Γ 0 0 (cells8 L o u S) 181 [(0, .ref o), (1, .int v1), (3, .int v3), (4, .int v4), (6, .int v6), (7, .long v7), (9, .long v9), (11, .int v11)] [] := by
      intro v7 v11 h
      unfold j_X8_ball_181 at h
      refine g_iinc C 184 (1 : Int32) 7 [(11, .int (v11 + (1 : Int32))), (0, .ref o), (1, .int v1), (3, .int v3), (4, .int v4), (6, .int v6), (7, .long v7), (9, .long v9)] dX8_ball_181 rfl rfl 15 hNL (by decide) rfl rfl ?_
      refine g_goto C 103 dX8_ball_184 (by decide) ?_
      refine g_lv (lv' := [(0, .ref o), (1, .int v1), (3, .int v3), (4, .int v4), (6, .int v6), (7, .long v7), (9, .long v9), (11, .int (v11 + (1 : Int32)))]) [1, 2, 3, 4, 5, 6, 7, 0] rfl ?_
      exact hk_103 _ _ h
    have J_174 : ∀ (v7 : Int64) (v11 : Int32) (v12 : Int64), j_X8_ball_174  k_103 v1 v3 v4 v6 v7 v9 v11 v12 S = some x → G L Γ 0 0 (cells8 L o u S) 174 [(0, .ref o), (1, .int v1), (3, .int v3), (4, .int v4), (6, .int v6), (7, .long v7), (9, .long v9), (11, .int v11), (12, .long v12)] [] := by
      intro v7 v11 v12 h
      unfold j_X8_ball_174 at h
      refine g_lload C 176 5 dX8_ball_174 rfl rfl ?_
      refine g_lload C 178 8 dX8_ball_176 rfl rfl ?_
      refine g_ladd C 179 dX8_ball_178 rfl ?_
      refine g_lstore C 181 7 [(7, .long (v7 + v12)), (0, .ref o), (1, .int v1), (3, .int v3), (4, .int v4), (6, .int v6), (9, .long v9), (11, .int v11), (12, .long v12)] dX8_ball_179 rfl 15 hNL (by decide) rfl ?_
      refine g_lv (lv' := [(0, .ref o), (1, .int v1), (3, .int v3), (4, .int v4), (6, .int v6), (7, .long (v7 + v12)), (9, .long v9), (11, .int v11)]) [1, 2, 3, 4, 5, 0, 6, 7] rfl ?_
      exact J_181 _ _ h
    have J_149 : ∀ (n : Nat) (v7 : Int64) (v11 : Int32) (v12 : Int64) (v14 : Int32), Lp2 (b_X8_ball_149  k_103 v1 v3 v4 v6 v7 v9 v11 S) n v12 v14 = some x → G L Γ 0 0 (cells8 L o u S) 149 [(0, .ref o), (1, .int v1), (3, .int v3), (4, .int v4), (6, .int v6), (7, .long v7), (9, .long v9), (11, .int v11), (12, .long v12), (14, .int v14)] [] := by
      intro n v7 v11
      refine lp_ok2 (fun v12 v14 => G L Γ 0 0 (cells8 L o u S) 149 [(0, .ref o), (1, .int v1), (3, .int v3), (4, .int v4), (6, .int v6), (7, .long v7), (9, .long v9), (11, .int v11), (12, .long v12), (14, .int v14)] []) (fun k_149 hk_149 => ?_) n
      intro v12 v14 h
      unfold b_X8_ball_149 at h
      refine g_iload C 151 9 dX8_ball_149 rfl rfl ?_
      refine g_iload C 153 4 dX8_ball_151 rfl rfl ?_
      refine bnd h (fun x10 e10 h => ?_)
      refine g_callSr C 156 [.int v14] [.int x10, .int v14] (ct_X8_bits L v6 x10 e10) kX8_bits kvX8_bits wl_X8_212 [] rfl rfl rfl rfl rfl (Nat.le_of_ble_eq_true rfl) ⟨Nat.le_of_ble_eq_true rfl, Nat.le_of_ble_eq_true rfl⟩ ⟨Nat.zero_le _, Nat.zero_le _⟩ dX8_ball_153 rfl ?_
      refine g_icmp_ge C 174 159 dX8_ball_156 (by decide) rfl (fun c => ?_) (fun c => ?_)
      · have h := ifT c h
        refine g_lv (lv' := [(0, .ref o), (1, .int v1), (3, .int v3), (4, .int v4), (6, .int v6), (7, .long v7), (9, .long v9), (11, .int v11), (12, .long v12)]) [0, 1, 2, 3, 4, 5, 6, 7, 8] rfl ?_
        exact J_174 _ _ _ h
      · have h := ifF c h
        refine g_lload C 161 8 dX8_ball_159 rfl rfl ?_
        refine g_iload_n C 162 2 dX8_ball_161 rfl rfl ?_
        refine g_iconst C 163 (1 : Int32) dX8_ball_162 rfl rfl ?_
        refine g_isub C 164 dX8_ball_163 rfl ?_
        refine g_i2l C 165 dX8_ball_164 rfl ?_
        refine g_lmul C 166 dX8_ball_165 rfl ?_
        refine g_lstore C 168 12 [(12, .long (v12 * ((v3 - (1 : Int32))).toInt64)), (0, .ref o), (1, .int v1), (3, .int v3), (4, .int v4), (6, .int v6), (7, .long v7), (9, .long v9), (11, .int v11), (14, .int v14)] dX8_ball_166 rfl 15 hNL (by decide) rfl ?_
        refine g_iinc C 171 (1 : Int32) 9 [(14, .int (v14 + (1 : Int32))), (12, .long (v12 * ((v3 - (1 : Int32))).toInt64)), (0, .ref o), (1, .int v1), (3, .int v3), (4, .int v4), (6, .int v6), (7, .long v7), (9, .long v9), (11, .int v11)] dX8_ball_168 rfl rfl 15 hNL (by decide) rfl rfl ?_
        refine g_goto C 149 dX8_ball_171 (by decide) ?_
        refine g_lv (lv' := [(0, .ref o), (1, .int v1), (3, .int v3), (4, .int v4), (6, .int v6), (7, .long v7), (9, .long v9), (11, .int v11), (12, .long (v12 * ((v3 - (1 : Int32))).toInt64)), (14, .int (v14 + (1 : Int32)))]) [2, 3, 4, 5, 6, 7, 8, 9, 1, 0] rfl ?_
        exact hk_149 _ _ h
    intro v7 v11 h
    unfold b_X8_ball_103 at h
    refine g_iload C 105 7 dX8_ball_103 rfl rfl ?_
    refine g_iconst C 106 (1 : Int32) dX8_ball_105 rfl rfl ?_
    refine g_aload_n C 107 0 dX8_ball_106 rfl rfl ?_
    refine g_get (v := .int (S.1 7)) C 110 8 0 7 hin_8 rfl rfl (by decide) wf_X8_61 rfl dX8_ball_107 rfl ?_
    refine g_ishl C 111 dX8_ball_110 rfl ?_
    refine g_icmp_ge C 187 114 dX8_ball_111 (by decide) rfl (fun c => ?_) (fun c => ?_)
    · have h := ifT c h
      refine g_lload C 189 5 dX8_ball_187 rfl rfl ?_
      refine g_lload C 191 6 dX8_ball_189 rfl rfl ?_
      refine g_iload C 193 3 dX8_ball_191 rfl rfl ?_
      refine bnd h (fun x7 e7 h => ?_)
      refine g_callSr C 196 [] [.long x7] (ct_X8_partOf L v7 v9 v4 x7 e7) kX8_partOf kvX8_partOf wl_X8_227 [] rfl rfl rfl rfl rfl (Nat.le_of_ble_eq_true rfl) ⟨Nat.le_of_ble_eq_true rfl, Nat.le_of_ble_eq_true rfl⟩ ⟨Nat.zero_le _, Nat.zero_le _⟩ dX8_ball_193 rfl ?_
      exact g_lret (st := []) C E dX8_ball_196 (by obtain rfl := Option.some.inj h; exact ⟨rfl, rfl⟩)
    · have h := ifF c h
      refine g_iload C 116 7 dX8_ball_114 rfl rfl ?_
      refine g_iload C 118 4 dX8_ball_116 rfl rfl ?_
      refine g_iconst C 119 (-1 : Int32) dX8_ball_118 rfl rfl ?_
      refine g_ixor C 120 dX8_ball_119 rfl ?_
      refine g_iand C 121 dX8_ball_120 rfl ?_
      refine g_if_ne C 181 124 dX8_ball_121 (by decide) rfl (fun c => ?_) (fun c => ?_)
      · have h := ifF c h
        exact J_181 _ _ h
      · have h := ifT c h
        refine g_aload_n C 125 0 dX8_ball_124 rfl rfl ?_
        refine g_iload_n C 126 1 dX8_ball_125 rfl rfl ?_
        refine g_iload C 128 4 dX8_ball_126 rfl rfl ?_
        refine g_iload C 130 7 dX8_ball_128 rfl rfl ?_
        refine bnd h (fun x8 e8 h => ?_)
        refine g_callVs (w' := (cells8 L o u S)) C 133 [] [.int x8] (ct_X8_passesBalls L o u S v1 v6 v11 x8 e8) kX8_passesBalls kvX8_passesBalls wl_X8_258 8 0 rfl rfl rfl rfl rfl rfl rfl (Nat.le_of_ble_eq_true rfl) ⟨Nat.le_of_ble_eq_true rfl, Nat.le_of_ble_eq_true rfl⟩ ⟨Nat.zero_le _, Nat.zero_le _⟩ dX8_ball_130 rfl ?_
        refine g_if_ne C 139 136 dX8_ball_133 (by decide) rfl (fun c => ?_) (fun c => ?_)
        · have h := ifF c h
          refine g_lconst C 140 (1 : Int64) dX8_ball_139 rfl rfl ?_
          refine g_lstore C 142 12 [(12, .long (1 : Int64)), (0, .ref o), (1, .int v1), (3, .int v3), (4, .int v4), (6, .int v6), (7, .long v7), (9, .long v9), (11, .int v11)] dX8_ball_140 rfl 15 hNL (by decide) rfl ?_
          refine g_iload C 144 8 dX8_ball_142 rfl rfl ?_
          refine bnd h (fun x9 e9 h => ?_)
          refine g_callSr C 147 [] [.int x9] (ct_X8_bits L v11 x9 e9) kX8_bits kvX8_bits wl_X8_212 [] rfl rfl rfl rfl rfl (Nat.le_of_ble_eq_true rfl) ⟨Nat.le_of_ble_eq_true rfl, Nat.le_of_ble_eq_true rfl⟩ ⟨Nat.zero_le _, Nat.zero_le _⟩ dX8_ball_144 rfl ?_
          refine g_istore C 149 14 [(14, .int x9), (12, .long (1 : Int64)), (0, .ref o), (1, .int v1), (3, .int v3), (4, .int v4), (6, .int v6), (7, .long v7), (9, .long v9), (11, .int v11)] dX8_ball_147 rfl 15 hNL (by decide) rfl ?_
          refine g_lv (lv' := [(0, .ref o), (1, .int v1), (3, .int v3), (4, .int v4), (6, .int v6), (7, .long v7), (9, .long v9), (11, .int v11), (12, .long (1 : Int64)), (14, .int x9)]) [2, 3, 4, 5, 6, 7, 8, 9, 1, 0] rfl ?_
          exact J_149 _ _ _ _ _ h
        · have h := ifT c h
          refine g_goto C 181 dX8_ball_136 (by decide) ?_
          exact J_181 _ _ h
  have J_100 : ∀ (v1 : Int32) (v3 : Int32) (v4 : Int32) (v6 : Int32) (v7 : Int64) (v9 : Int64) (S : OS), j_X8_ball_100   v1 v3 v4 v6 v7 v9 S = some x → G L Γ 0 0 (cells8 L o u S) 100 [(0, .ref o), (1, .int v1), (3, .int v3), (4, .int v4), (6, .int v6), (7, .long v7), (9, .long v9)] [] := by
    intro v1 v3 v4 v6 v7 v9 S h
    unfold j_X8_ball_100 at h
    refine g_iconst C 101 (0 : Int32) dX8_ball_100 rfl rfl ?_
    refine g_istore C 103 11 [(11, .int (0 : Int32)), (0, .ref o), (1, .int v1), (3, .int v3), (4, .int v4), (6, .int v6), (7, .long v7), (9, .long v9)] dX8_ball_101 rfl 15 hNL (by decide) rfl ?_
    refine g_lv (lv' := [(0, .ref o), (1, .int v1), (3, .int v3), (4, .int v4), (6, .int v6), (7, .long v7), (9, .long v9), (11, .int (0 : Int32))]) [1, 2, 3, 4, 5, 6, 7, 0] rfl ?_
    exact J_103 _ _ _ _ _ _ _ _ _ h
  have J_77 : ∀ (n : Nat) (v1 : Int32) (v3 : Int32) (v4 : Int32) (v6 : Int32) (v7 : Int64) (S : OS) (v9 : Int64) (v11 : Int32), Lp2 (b_X8_ball_77   v1 v3 v4 v6 v7 S) n v9 v11 = some x → G L Γ 0 0 (cells8 L o u S) 77 [(0, .ref o), (1, .int v1), (3, .int v3), (4, .int v4), (6, .int v6), (7, .long v7), (9, .long v9), (11, .int v11)] [] := by
    intro n v1 v3 v4 v6 v7 S
    refine lp_ok2 (fun v9 v11 => G L Γ 0 0 (cells8 L o u S) 77 [(0, .ref o), (1, .int v1), (3, .int v3), (4, .int v4), (6, .int v6), (7, .long v7), (9, .long v9), (11, .int v11)] []) (fun k_77 hk_77 => ?_) n
    intro v9 v11 h
    unfold b_X8_ball_77 at h
    refine g_iload C 79 7 dX8_ball_77 rfl rfl ?_
    refine g_iload C 81 4 dX8_ball_79 rfl rfl ?_
    refine bnd h (fun x6 e6 h => ?_)
    refine g_callSr C 84 [.int v11] [.int x6, .int v11] (ct_X8_bits L v6 x6 e6) kX8_bits kvX8_bits wl_X8_212 [] rfl rfl rfl rfl rfl (Nat.le_of_ble_eq_true rfl) ⟨Nat.le_of_ble_eq_true rfl, Nat.le_of_ble_eq_true rfl⟩ ⟨Nat.zero_le _, Nat.zero_le _⟩ dX8_ball_81 rfl ?_
    refine g_icmp_ge C 100 87 dX8_ball_84 (by decide) rfl (fun c => ?_) (fun c => ?_)
    · have h := ifT c h
      refine g_lv (lv' := [(0, .ref o), (1, .int v1), (3, .int v3), (4, .int v4), (6, .int v6), (7, .long v7), (9, .long v9)]) [0, 1, 2, 3, 4, 5, 6] rfl ?_
      exact J_100 _ _ _ _ _ _ _ h
    · have h := ifF c h
      refine g_lload C 89 6 dX8_ball_87 rfl rfl ?_
      refine g_iload_n C 90 2 dX8_ball_89 rfl rfl ?_
      refine g_i2l C 91 dX8_ball_90 rfl ?_
      refine g_lmul C 92 dX8_ball_91 rfl ?_
      refine g_lstore C 94 9 [(9, .long (v9 * (v3).toInt64)), (0, .ref o), (1, .int v1), (3, .int v3), (4, .int v4), (6, .int v6), (7, .long v7), (11, .int v11)] dX8_ball_92 rfl 15 hNL (by decide) rfl ?_
      refine g_iinc C 97 (1 : Int32) 7 [(11, .int (v11 + (1 : Int32))), (9, .long (v9 * (v3).toInt64)), (0, .ref o), (1, .int v1), (3, .int v3), (4, .int v4), (6, .int v6), (7, .long v7)] dX8_ball_94 rfl rfl 15 hNL (by decide) rfl rfl ?_
      refine g_goto C 77 dX8_ball_97 (by decide) ?_
      refine g_lv (lv' := [(0, .ref o), (1, .int v1), (3, .int v3), (4, .int v4), (6, .int v6), (7, .long v7), (9, .long (v9 * (v3).toInt64)), (11, .int (v11 + (1 : Int32)))]) [2, 3, 4, 5, 6, 7, 1, 0] rfl ?_
      exact hk_77 _ _ h
  have J_48 : ∀ (v1 : Int32) (v2 : Int32) (v3 : Int32) (v4 : Int32) (v5 : Int32) (S : OS), j_X8_ball_48   v1 v2 v3 v4 v5 S = some x → G L Γ 0 0 (cells8 L o u S) 48 [(0, .ref o), (1, .int v1), (2, .int v2), (3, .int v3), (4, .int v4), (5, .int v5)] [] := by
    intro v1 v2 v3 v4 v5 S h
    unfold j_X8_ball_48 at h
    refine g_iload C 50 5 dX8_ball_48 rfl rfl ?_
    refine g_if_eq C 60 53 dX8_ball_50 (by decide) rfl (fun c => ?_) (fun c => ?_)
    · have h := ifT c h
      refine g_aload_n C 61 0 dX8_ball_60 rfl rfl ?_
      refine g_get (v := .ref (u 4)) C 64 8 0 4 hin_8 rfl rfl (by decide) wf_X8_22 rfl dX8_ball_61 rfl ?_
      refine g_iload_n C 65 2 dX8_ball_64 rfl rfl ?_
      refine grdE h (fun hb h => ?_)
      refine g_iald (f := (S.2 4)) C 66 5 rfl hb dX8_ball_65 rfl ?_
      refine g_istore C 68 6 [(6, .int ((S.2 4) (v2).toNatClampNeg)), (0, .ref o), (1, .int v1), (2, .int v2), (3, .int v3), (4, .int v4), (5, .int v5)] dX8_ball_66 rfl 15 hNL (by decide) rfl ?_
      refine g_lconst C 69 (0 : Int64) dX8_ball_68 rfl rfl ?_
      refine g_lstore C 71 7 [(7, .long (0 : Int64)), (6, .int ((S.2 4) (v2).toNatClampNeg)), (0, .ref o), (1, .int v1), (2, .int v2), (3, .int v3), (4, .int v4), (5, .int v5)] dX8_ball_69 rfl 15 hNL (by decide) rfl ?_
      refine g_lconst C 72 (1 : Int64) dX8_ball_71 rfl rfl ?_
      refine g_lstore C 74 9 [(9, .long (1 : Int64)), (7, .long (0 : Int64)), (6, .int ((S.2 4) (v2).toNatClampNeg)), (0, .ref o), (1, .int v1), (2, .int v2), (3, .int v3), (4, .int v4), (5, .int v5)] dX8_ball_72 rfl 15 hNL (by decide) rfl ?_
      refine g_iconst C 75 (0 : Int32) dX8_ball_74 rfl rfl ?_
      refine g_istore C 77 11 [(11, .int (0 : Int32)), (9, .long (1 : Int64)), (7, .long (0 : Int64)), (6, .int ((S.2 4) (v2).toNatClampNeg)), (0, .ref o), (1, .int v1), (2, .int v2), (3, .int v3), (4, .int v4), (5, .int v5)] dX8_ball_75 rfl 15 hNL (by decide) rfl ?_
      refine g_lv (lv' := [(0, .ref o), (1, .int v1), (3, .int v3), (4, .int v4), (6, .int ((S.2 4) (v2).toNatClampNeg)), (7, .long (0 : Int64)), (9, .long (1 : Int64)), (11, .int (0 : Int32))]) [4, 5, 7, 8, 3, 2, 1, 0] rfl ?_
      exact J_77 _ _ _ _ _ _ _ _ _ h
    · have h := ifF c h
      refine g_aload_n C 54 0 dX8_ball_53 rfl rfl ?_
      refine g_iload C 56 5 dX8_ball_54 rfl rfl ?_
      refine bnd h (fun x5 e5 h => ?_)
      refine g_callVs (w' := (cells8 L o u x5.2)) C 59 [] [.long x5.1] (ct_X8_lowest L o u S v5 x5 e5) kX8_lowest kvX8_lowest wl_X8_223 8 0 rfl rfl rfl rfl rfl rfl rfl (Nat.le_of_ble_eq_true rfl) ⟨Nat.le_of_ble_eq_true rfl, Nat.le_of_ble_eq_true rfl⟩ ⟨Nat.zero_le _, Nat.zero_le _⟩ dX8_ball_56 rfl ?_
      exact g_lret (st := []) C E dX8_ball_59 (by obtain rfl := Option.some.inj h; exact ⟨rfl, rfl⟩)
  have J_27 : ∀ (v1 : Int32) (v2 : Int32) (v3 : Int32) (v4 : Int32) (s0 : Int32) (S : OS), j_X8_ball_27   v1 v2 v3 v4 s0 S = some x → G L Γ 0 0 (cells8 L o u S) 27 [(0, .ref o), (1, .int v1), (2, .int v2), (3, .int v3), (4, .int v4)] [.int s0] := by
    intro v1 v2 v3 v4 s0 S h
    unfold j_X8_ball_27 at h
    refine g_istore C 29 5 [(5, .int s0), (0, .ref o), (1, .int v1), (2, .int v2), (3, .int v3), (4, .int v4)] dX8_ball_27 rfl 15 hNL (by decide) rfl ?_
    refine g_iload C 31 0 dX8_ball_29 rfl rfl ?_
    refine g_if_ne C 48 34 dX8_ball_31 (by decide) rfl (fun c => ?_) (fun c => ?_)
    · have h := ifF c h
      refine g_lv (lv' := [(0, .ref o), (1, .int v1), (2, .int v2), (3, .int v3), (4, .int v4), (5, .int s0)]) [1, 2, 3, 4, 5, 0] rfl ?_
      exact J_48 _ _ _ _ _ _ h
    · have h := ifT c h
      refine g_iload C 36 5 dX8_ball_34 rfl rfl ?_
      refine g_iconst C 37 (0 : Int32) dX8_ball_36 rfl rfl ?_
      refine g_iconst C 38 (1 : Int32) dX8_ball_37 rfl rfl ?_
      refine bnd h (fun x4 e4 h => ?_)
      refine g_callSr C 41 [] [.int x4] (ct_X8_isIn L v4 (0 : Int32) (1 : Int32) x4 e4) kX8_isIn kvX8_isIn wl_X8_88 [] rfl rfl rfl rfl rfl (Nat.le_of_ble_eq_true rfl) ⟨Nat.le_of_ble_eq_true rfl, Nat.le_of_ble_eq_true rfl⟩ ⟨Nat.zero_le _, Nat.zero_le _⟩ dX8_ball_38 rfl ?_
      refine g_if_ne C 48 44 dX8_ball_41 (by decide) rfl (fun c => ?_) (fun c => ?_)
      · have h := ifF c h
        refine g_lv (lv' := [(0, .ref o), (1, .int v1), (2, .int v2), (3, .int v3), (4, .int v4), (5, .int s0)]) [1, 2, 3, 4, 5, 0] rfl ?_
        exact J_48 _ _ _ _ _ _ h
      · have h := ifT c h
        refine g_bipush C 46 (-2 : Int32) dX8_ball_44 rfl rfl ?_
        refine g_istore C 48 5 [(5, .int (-2 : Int32)), (0, .ref o), (1, .int v1), (2, .int v2), (3, .int v3), (4, .int v4)] dX8_ball_46 rfl 15 hNL (by decide) rfl ?_
        refine g_lv (lv' := [(0, .ref o), (1, .int v1), (2, .int v2), (3, .int v3), (4, .int v4), (5, .int (-2 : Int32))]) [1, 2, 3, 4, 5, 0] rfl ?_
        exact J_48 _ _ _ _ _ _ h
  have J_16 : ∀ (v1 : Int32) (v2 : Int32) (v3 : Int32) (v4 : Int32) (S : OS), j_X8_ball_16   v1 v2 v3 v4 S = some x → G L Γ 0 0 (cells8 L o u S) 16 [(0, .ref o), (1, .int v1), (2, .int v2), (3, .int v3), (4, .int v4)] [] := by
    intro v1 v2 v3 v4 S h
    unfold j_X8_ball_16 at h
    refine g_iconst C 17 (-1 : Int32) dX8_ball_16 rfl rfl ?_
    refine g_goto C 27 dX8_ball_17 (by decide) ?_
    exact J_27 _ _ _ _ _ _ h
  unfold f_X8_ball at h
  refine g_aload_n C 1 0 dX8_ball_0 rfl rfl ?_
  refine g_iload_n C 2 1 dX8_ball_1 rfl rfl ?_
  refine bnd h (fun x1 e1 h => ?_)
  refine g_callVs (w' := (cells8 L o u S)) C 5 [] [.int x1] (ct_X8_isLearner L o u S v1 x1 e1) kX8_isLearner kvX8_isLearner wl_X8_114 8 0 rfl rfl rfl rfl rfl rfl rfl (Nat.le_of_ble_eq_true rfl) ⟨Nat.le_of_ble_eq_true rfl, Nat.le_of_ble_eq_true rfl⟩ ⟨Nat.zero_le _, Nat.zero_le _⟩ dX8_ball_2 rfl ?_
  refine g_if_eq C 16 8 dX8_ball_5 (by decide) rfl (fun c => ?_) (fun c => ?_)
  · have h := ifT c h
    exact J_16 _ _ _ _ _ h
  · have h := ifF c h
    refine g_aload_n C 9 0 dX8_ball_8 rfl rfl ?_
    refine g_iload_n C 10 2 dX8_ball_9 rfl rfl ?_
    refine bnd h (fun x2 e2 h => ?_)
    refine g_callVs (w' := (cells8 L o u S)) C 13 [] [.int x2] (ct_X8_isWay L o u S v2 x2 e2) kX8_isWay kvX8_isWay wl_X8_120 8 0 rfl rfl rfl rfl rfl rfl rfl (Nat.le_of_ble_eq_true rfl) ⟨Nat.le_of_ble_eq_true rfl, Nat.le_of_ble_eq_true rfl⟩ ⟨Nat.zero_le _, Nat.zero_le _⟩ dX8_ball_10 rfl ?_
    refine g_if_ne C 20 16 dX8_ball_13 (by decide) rfl (fun c => ?_) (fun c => ?_)
    · have h := ifF c h
      refine g_iload_n C 21 3 dX8_ball_20 rfl rfl ?_
      refine g_iconst C 22 (2 : Int32) dX8_ball_21 rfl rfl ?_
      refine g_bipush C 24 (20 : Int32) dX8_ball_22 rfl rfl ?_
      refine bnd h (fun x3 e3 h => ?_)
      refine g_callSr C 27 [] [.int x3] (ct_X8_bound L v3 (2 : Int32) (20 : Int32) x3 e3) kX8_bound kvX8_bound wl_X8_70 [] rfl rfl rfl rfl rfl (Nat.le_of_ble_eq_true rfl) ⟨Nat.le_of_ble_eq_true rfl, Nat.le_of_ble_eq_true rfl⟩ ⟨Nat.zero_le _, Nat.zero_le _⟩ dX8_ball_24 rfl ?_
      exact J_27 _ _ _ _ _ _ h
    · have h := ifT c h
      exact J_16 _ _ _ _ _ h
set_option maxHeartbeats 4000000 in
set_option maxRecDepth 100000 in
theorem ct_X8_waysWith (L : LL) (o : Nat) (u : Nat → Nat) (S : OS) (v1 : Int32) (x : Int32) (h : f_X8_waysWith S v1 = some x) : Ct L yX8_waysWith cX8_waysWith 4 (some .int) (rmk 0 0 0 0) 0 0 [.ref o, .int v1] (cells8 L o u S) (Pv (some (.int x)) (cells8 L o u S)) := by
  refine g_enter (lv := [(0, .ref o), (1, .int v1)]) kX8_waysWith rfl rfl (Nat.le_of_ble_eq_true rfl) (fun Γ C E hNL => ?_)
  have J_4 : ∀ (n : Nat) (v1 : Int32) (v2 : Int32) (v3 : Int32), Lp2 (b_X8_waysWith_4 S  v1) n v2 v3 = some x → G L Γ 0 0 (cells8 L o u S) 4 [(0, .ref o), (1, .int v1), (2, .int v2), (3, .int v3)] [] := by
    intro n v1
    refine lp_ok2 (fun v2 v3 => G L Γ 0 0 (cells8 L o u S) 4 [(0, .ref o), (1, .int v1), (2, .int v2), (3, .int v3)] []) (fun k_4 hk_4 => ?_) n
    intro v2 v3 h
    unfold b_X8_waysWith_4 at h
    refine g_iload_n C 5 3 dX8_waysWith_4 rfl rfl ?_
    refine g_aload_n C 6 0 dX8_waysWith_5 rfl rfl ?_
    refine g_get (v := .int (S.1 8)) C 9 8 0 8 hin_8 rfl rfl (by decide) wf_X8_64 rfl dX8_waysWith_6 rfl ?_
    refine g_icmp_ge C 31 12 dX8_waysWith_9 (by decide) rfl (fun c => ?_) (fun c => ?_)
    · have h := ifT c h
      refine g_iload_n C 32 2 dX8_waysWith_31 rfl rfl ?_
      exact g_iret (st := []) C E dX8_waysWith_32 (by obtain rfl := Option.some.inj h; exact ⟨rfl, rfl⟩)
    · have h := ifF c h
      refine g_iload_n C 13 2 dX8_waysWith_12 rfl rfl ?_
      refine g_aload_n C 14 0 dX8_waysWith_13 rfl rfl ?_
      refine g_get (v := .ref (u 4)) C 17 8 0 4 hin_8 rfl rfl (by decide) wf_X8_22 rfl dX8_waysWith_14 rfl ?_
      refine g_iload_n C 18 3 dX8_waysWith_17 rfl rfl ?_
      refine grdE h (fun hb h => ?_)
      refine g_iald (f := (S.2 4)) C 19 5 rfl hb dX8_waysWith_18 rfl ?_
      refine g_iload_n C 20 1 dX8_waysWith_19 rfl rfl ?_
      refine g_ishr C 21 dX8_waysWith_20 rfl ?_
      refine g_iconst C 22 (1 : Int32) dX8_waysWith_21 rfl rfl ?_
      refine g_iand C 23 dX8_waysWith_22 rfl ?_
      refine g_iadd C 24 dX8_waysWith_23 rfl ?_
      refine g_istore_n C 25 2 [(2, .int (v2 + ((((S.2 4) (v3).toNatClampNeg) >>> (v1 &&& 31)) &&& (1 : Int32)))), (0, .ref o), (1, .int v1), (3, .int v3)] dX8_waysWith_24 rfl rfl 4 hNL (by decide) rfl ?_
      refine g_iinc C 28 (1 : Int32) 3 [(3, .int (v3 + (1 : Int32))), (2, .int (v2 + ((((S.2 4) (v3).toNatClampNeg) >>> (v1 &&& 31)) &&& (1 : Int32)))), (0, .ref o), (1, .int v1)] dX8_waysWith_25 rfl rfl 4 hNL (by decide) rfl rfl ?_
      refine g_goto C 4 dX8_waysWith_28 (by decide) ?_
      refine g_lv (lv' := [(0, .ref o), (1, .int v1), (2, .int (v2 + ((((S.2 4) (v3).toNatClampNeg) >>> (v1 &&& 31)) &&& (1 : Int32)))), (3, .int (v3 + (1 : Int32)))]) [2, 3, 1, 0] rfl ?_
      exact hk_4 _ _ h
  unfold f_X8_waysWith at h
  refine g_iconst C 1 (0 : Int32) dX8_waysWith_0 rfl rfl ?_
  refine g_istore_n C 2 2 [(2, .int (0 : Int32)), (0, .ref o), (1, .int v1)] dX8_waysWith_1 rfl rfl 4 hNL (by decide) rfl ?_
  refine g_iconst C 3 (0 : Int32) dX8_waysWith_2 rfl rfl ?_
  refine g_istore_n C 4 3 [(3, .int (0 : Int32)), (2, .int (0 : Int32)), (0, .ref o), (1, .int v1)] dX8_waysWith_3 rfl rfl 4 hNL (by decide) rfl ?_
  refine g_lv (lv' := [(0, .ref o), (1, .int v1), (2, .int (0 : Int32)), (3, .int (0 : Int32))]) [2, 3, 1, 0] rfl ?_
  exact J_4 _ _ _ _ h
set_option maxHeartbeats 4000000 in
set_option maxRecDepth 100000 in
theorem ct_X8_crowded (L : LL) (o : Nat) (u : Nat → Nat) (S : OS) (v1 : Int32) (x : (Int32 × OS)) (h : f_X8_crowded S v1 = some x) : Ct L yX8_crowded cX8_crowded 5 (some .int) (rmk 1 0 0 23) 0 0 [.ref o, .int v1] (cells8 L o u S) (Pv (some (.int x.1)) (cells8 L o u x.2)) := by
  refine g_enter (lv := [(0, .ref o), (1, .int v1)]) kX8_crowded rfl rfl (Nat.le_of_ble_eq_true rfl) (fun Γ C E hNL => ?_)
  have J_84 : ∀ (v1 : Int32) (v2 : Int32) (v3 : Int32) (S : OS), j_X8_crowded_84   v1 v2 v3 S = some x → G L Γ 0 0 (cells8 L o u S) 84 [(0, .ref o), (1, .int v1), (2, .int v2), (3, .int v3)] [] := by
    intro v1 v2 v3 S h
    unfold j_X8_crowded_84 at h
    refine g_iload_n C 85 1 dX8_crowded_84 rfl rfl ?_
    refine g_iconst C 86 (2 : Int32) dX8_crowded_85 rfl rfl ?_
    refine g_icmp_ne C 93 89 dX8_crowded_86 (by decide) rfl (fun c => ?_) (fun c => ?_)
    · have h := ifF c h
      refine g_iload_n C 94 1 dX8_crowded_93 rfl rfl ?_
      refine g_if_ne C 101 97 dX8_crowded_94 (by decide) rfl (fun c => ?_) (fun c => ?_)
      · have h := ifF c h
        refine g_iload_n C 102 2 dX8_crowded_101 rfl rfl ?_
        refine g_if_ge C 109 105 dX8_crowded_102 (by decide) rfl (fun c => ?_) (fun c => ?_)
        · have h := ifT c h
          refine g_aload_n C 110 0 dX8_crowded_109 rfl rfl ?_
          refine g_iload_n C 111 2 dX8_crowded_110 rfl rfl ?_
          refine bnd h (fun x5 e5 h => ?_)
          refine g_callVs (w' := (cells8 L o u S)) C 114 [] [.int x5] (ct_X8_waysWith L o u S v2 x5 e5) kX8_waysWith kvX8_waysWith wl_X8_261 8 0 rfl rfl rfl rfl rfl rfl rfl (Nat.le_of_ble_eq_true rfl) ⟨Nat.le_of_ble_eq_true rfl, Nat.le_of_ble_eq_true rfl⟩ ⟨Nat.zero_le _, Nat.zero_le _⟩ dX8_crowded_111 rfl ?_
          exact g_iret (st := []) C E dX8_crowded_114 (by obtain rfl := Option.some.inj h; exact ⟨rfl, rfl⟩)
        · have h := ifF c h
          refine g_iconst C 106 (0 : Int32) dX8_crowded_105 rfl rfl ?_
          refine g_goto C 114 dX8_crowded_106 (by decide) ?_
          exact g_iret (st := []) C E dX8_crowded_114 (by obtain rfl := Option.some.inj h; exact ⟨rfl, rfl⟩)
      · have h := ifT c h
        refine g_iload_n C 98 2 dX8_crowded_97 rfl rfl ?_
        refine g_goto C 114 dX8_crowded_98 (by decide) ?_
        exact g_iret (st := []) C E dX8_crowded_114 (by obtain rfl := Option.some.inj h; exact ⟨rfl, rfl⟩)
    · have h := ifT c h
      refine g_iload_n C 90 3 dX8_crowded_89 rfl rfl ?_
      refine g_goto C 114 dX8_crowded_90 (by decide) ?_
      exact g_iret (st := []) C E dX8_crowded_114 (by obtain rfl := Option.some.inj h; exact ⟨rfl, rfl⟩)
  have J_24 : ∀ (n : Nat) (v1 : Int32) (S : OS) (v2 : Int32) (v3 : Int32) (v4 : Int32), Lp3 (b_X8_crowded_24   v1 S) n v2 v3 v4 = some x → G L Γ 0 0 (cells8 L o u S) 24 [(0, .ref o), (1, .int v1), (2, .int v2), (3, .int v3), (4, .int v4)] [] := by
    intro n v1 S
    refine lp_ok3 (fun v2 v3 v4 => G L Γ 0 0 (cells8 L o u S) 24 [(0, .ref o), (1, .int v1), (2, .int v2), (3, .int v3), (4, .int v4)] []) (fun k_24 hk_24 => ?_) n
    have J_76 : ∀ (v2 : Int32) (v4 : Int32) (s0 : Int32) (s1 : Int32), j_X8_crowded_76  k_24 v1 v2 v4 s0 s1 S = some x → G L Γ 0 0 (cells8 L o u S) 76 [(0, .ref o), (1, .int v1), (2, .int v2), (4, .int v4)] [.int s0, .int s1] := by
      intro v2 v4 s0 s1 h
      unfold j_X8_crowded_76 at h
      refine g_ior C 77 dX8_crowded_76 rfl ?_
      refine g_istore_n C 78 3 [(3, .int (s1 ||| s0)), (0, .ref o), (1, .int v1), (2, .int v2), (4, .int v4)] dX8_crowded_77 rfl rfl 5 hNL (by decide) rfl ?_
      refine g_iinc C 81 (1 : Int32) 4 [(4, .int (v4 + (1 : Int32))), (3, .int (s1 ||| s0)), (0, .ref o), (1, .int v1), (2, .int v2)] dX8_crowded_78 rfl rfl 5 hNL (by decide) rfl rfl ?_
      refine g_goto C 24 dX8_crowded_81 (by decide) ?_
      refine g_lv (lv' := [(0, .ref o), (1, .int v1), (2, .int v2), (3, .int (s1 ||| s0)), (4, .int (v4 + (1 : Int32)))]) [2, 3, 4, 1, 0] rfl ?_
      exact hk_24 _ _ _ h
    have J_57 : ∀ (v3 : Int32) (v4 : Int32) (s0 : Int32), j_X8_crowded_57  k_24 v1 v3 v4 s0 S = some x → G L Γ 0 0 (cells8 L o u S) 57 [(0, .ref o), (1, .int v1), (3, .int v3), (4, .int v4)] [.int s0] := by
      intro v3 v4 s0 h
      unfold j_X8_crowded_57 at h
      refine g_istore_n C 58 2 [(2, .int s0), (0, .ref o), (1, .int v1), (3, .int v3), (4, .int v4)] dX8_crowded_57 rfl rfl 5 hNL (by decide) rfl ?_
      refine g_iload_n C 59 3 dX8_crowded_58 rfl rfl ?_
      refine g_aload_n C 60 1 dX8_crowded_59 rfl rfl ?_
      refine g_iload C 62 4 dX8_crowded_60 rfl rfl ?_
      refine bnd h (fun x6 e6 h => ?_)
      refine g_callVs (w' := (cells8 L o u S)) C 65 [.int v3] [.int x6, .int v3] (ct_X8_waysWith L o u S v4 x6 e6) kX8_waysWith kvX8_waysWith wl_X8_261 8 0 rfl rfl rfl rfl rfl rfl rfl (Nat.le_of_ble_eq_true rfl) ⟨Nat.le_of_ble_eq_true rfl, Nat.le_of_ble_eq_true rfl⟩ ⟨Nat.zero_le _, Nat.zero_le _⟩ dX8_crowded_62 rfl ?_
      refine g_if_ne C 75 68 dX8_crowded_65 (by decide) rfl (fun c => ?_) (fun c => ?_)
      · have h := ifF c h
        refine g_iconst C 76 (0 : Int32) dX8_crowded_75 rfl rfl ?_
        refine g_lv (lv' := [(0, .ref o), (1, .int v1), (2, .int s0), (4, .int v4)]) [1, 2, 0, 4] rfl ?_
        exact J_76 _ _ _ _ h
      · have h := ifT c h
        refine g_iconst C 69 (1 : Int32) dX8_crowded_68 rfl rfl ?_
        refine g_iload C 71 4 dX8_crowded_69 rfl rfl ?_
        refine g_ishl C 72 dX8_crowded_71 rfl ?_
        refine g_goto C 76 dX8_crowded_72 (by decide) ?_
        refine g_lv (lv' := [(0, .ref o), (1, .int v1), (2, .int s0), (4, .int v4)]) [1, 2, 0, 4] rfl ?_
        exact J_76 _ _ _ _ h
    have J_51 : ∀ (v3 : Int32) (v4 : Int32), j_X8_crowded_51  k_24 v1 v3 v4 S = some x → G L Γ 0 0 (cells8 L o u S) 51 [(0, .ref o), (1, .int v1), (3, .int v3), (4, .int v4)] [] := by
      intro v3 v4 h
      unfold j_X8_crowded_51 at h
      refine g_iload C 53 3 dX8_crowded_51 rfl rfl ?_
      refine g_goto C 57 dX8_crowded_53 (by decide) ?_
      exact J_57 _ _ _ h
    intro v2 v3 v4 h
    unfold b_X8_crowded_24 at h
    refine g_iload C 26 4 dX8_crowded_24 rfl rfl ?_
    refine g_aload_n C 27 0 dX8_crowded_26 rfl rfl ?_
    refine g_get (v := .int (S.1 7)) C 30 8 0 7 hin_8 rfl rfl (by decide) wf_X8_61 rfl dX8_crowded_27 rfl ?_
    refine g_icmp_ge C 84 33 dX8_crowded_30 (by decide) rfl (fun c => ?_) (fun c => ?_)
    · have h := ifT c h
      refine g_lv (lv' := [(0, .ref o), (1, .int v1), (2, .int v2), (3, .int v3)]) [0, 1, 2, 3] rfl ?_
      exact J_84 _ _ _ _ h
    · have h := ifF c h
      refine g_iload_n C 34 2 dX8_crowded_33 rfl rfl ?_
      refine g_if_lt C 51 37 dX8_crowded_34 (by decide) rfl (fun c => ?_) (fun c => ?_)
      · have h := ifT c h
        refine g_lv (lv' := [(0, .ref o), (1, .int v1), (3, .int v3), (4, .int v4)]) [0, 1, 3, 4] rfl ?_
        exact J_51 _ _ h
      · have h := ifF c h
        refine g_aload_n C 38 0 dX8_crowded_37 rfl rfl ?_
        refine g_iload C 40 4 dX8_crowded_38 rfl rfl ?_
        refine bnd h (fun x3 e3 h => ?_)
        refine g_callVs (w' := (cells8 L o u S)) C 43 [] [.int x3] (ct_X8_waysWith L o u S v4 x3 e3) kX8_waysWith kvX8_waysWith wl_X8_261 8 0 rfl rfl rfl rfl rfl rfl rfl (Nat.le_of_ble_eq_true rfl) ⟨Nat.le_of_ble_eq_true rfl, Nat.le_of_ble_eq_true rfl⟩ ⟨Nat.zero_le _, Nat.zero_le _⟩ dX8_crowded_40 rfl ?_
        refine g_aload_n C 44 0 dX8_crowded_43 rfl rfl ?_
        refine g_iload_n C 45 2 dX8_crowded_44 rfl rfl ?_
        refine bnd h (fun x4 e4 h => ?_)
        refine g_callVs (w' := (cells8 L o u S)) C 48 [.int x3] [.int x4, .int x3] (ct_X8_waysWith L o u S v2 x4 e4) kX8_waysWith kvX8_waysWith wl_X8_261 8 0 rfl rfl rfl rfl rfl rfl rfl (Nat.le_of_ble_eq_true rfl) ⟨Nat.le_of_ble_eq_true rfl, Nat.le_of_ble_eq_true rfl⟩ ⟨Nat.zero_le _, Nat.zero_le _⟩ dX8_crowded_45 rfl ?_
        refine g_icmp_le C 56 51 dX8_crowded_48 (by decide) rfl (fun c => ?_) (fun c => ?_)
        · have h := ifT c h
          refine g_iload_n C 57 2 dX8_crowded_56 rfl rfl ?_
          refine g_lv (lv' := [(0, .ref o), (1, .int v1), (3, .int v3), (4, .int v4)]) [0, 1, 3, 4] rfl ?_
          exact J_57 _ _ _ h
        · have h := ifF c h
          refine g_lv (lv' := [(0, .ref o), (1, .int v1), (3, .int v3), (4, .int v4)]) [0, 1, 3, 4] rfl ?_
          exact J_51 _ _ h
  unfold f_X8_crowded at h
  refine g_iload_n C 1 1 dX8_crowded_0 rfl rfl ?_
  refine g_iconst C 2 (0 : Int32) dX8_crowded_1 rfl rfl ?_
  refine g_iconst C 3 (2 : Int32) dX8_crowded_2 rfl rfl ?_
  refine bnd h (fun x1 e1 h => ?_)
  refine g_callSr C 6 [] [.int x1] (ct_X8_isIn L v1 (0 : Int32) (2 : Int32) x1 e1) kX8_isIn kvX8_isIn wl_X8_88 [] rfl rfl rfl rfl rfl (Nat.le_of_ble_eq_true rfl) ⟨Nat.le_of_ble_eq_true rfl, Nat.le_of_ble_eq_true rfl⟩ ⟨Nat.zero_le _, Nat.zero_le _⟩ dX8_crowded_3 rfl ?_
  refine g_if_ne C 16 9 dX8_crowded_6 (by decide) rfl (fun c => ?_) (fun c => ?_)
  · have h := ifF c h
    refine g_bipush C 18 (-9 : Int32) dX8_crowded_16 rfl rfl ?_
    refine g_istore_n C 19 2 [(2, .int (-9 : Int32)), (0, .ref o), (1, .int v1)] dX8_crowded_18 rfl rfl 5 hNL (by decide) rfl ?_
    refine g_iconst C 20 (0 : Int32) dX8_crowded_19 rfl rfl ?_
    refine g_istore_n C 21 3 [(3, .int (0 : Int32)), (2, .int (-9 : Int32)), (0, .ref o), (1, .int v1)] dX8_crowded_20 rfl rfl 5 hNL (by decide) rfl ?_
    refine g_iconst C 22 (0 : Int32) dX8_crowded_21 rfl rfl ?_
    refine g_istore C 24 4 [(4, .int (0 : Int32)), (3, .int (0 : Int32)), (2, .int (-9 : Int32)), (0, .ref o), (1, .int v1)] dX8_crowded_22 rfl 5 hNL (by decide) rfl ?_
    refine g_lv (lv' := [(0, .ref o), (1, .int v1), (2, .int (-9 : Int32)), (3, .int (0 : Int32)), (4, .int (0 : Int32))]) [3, 4, 2, 1, 0] rfl ?_
    exact J_24 _ _ _ _ _ _ h
  · have h := ifT c h
    refine g_aload_n C 10 0 dX8_crowded_9 rfl rfl ?_
    refine g_bipush C 12 (-2 : Int32) dX8_crowded_10 rfl rfl ?_
    refine bnd h (fun x2 e2 h => ?_)
    refine g_callVs (w' := (cells8 L o u x2.2)) C 15 [] [.int x2.1] (ct_X8_no L o u S (-2 : Int32) x2 e2) kX8_no kvX8_no wl_X8_77 8 0 rfl rfl rfl rfl rfl rfl rfl (Nat.le_of_ble_eq_true rfl) ⟨Nat.le_of_ble_eq_true rfl, Nat.le_of_ble_eq_true rfl⟩ ⟨Nat.zero_le _, Nat.zero_le _⟩ dX8_crowded_12 rfl ?_
    exact g_iret (st := []) C E dX8_crowded_15 (by obtain rfl := Option.some.inj h; exact ⟨rfl, rfl⟩)
set_option maxHeartbeats 4000000 in
set_option maxRecDepth 100000 in
theorem ct_X8_aheadOf (L : LL) (o : Nat) (u : Nat → Nat) (S : OS) (v1 : Int32) (v2 : Int32) (x : Int32) (h : f_X8_aheadOf S v1 v2 = some x) : Ct L yX8_aheadOf cX8_aheadOf 6 (some .int) (rmk 4 0 0 95) 0 0 [.ref o, .int v1, .int v2] (cells8 L o u S) (Pv (some (.int x)) (cells8 L o u S)) := by
  refine g_enter (lv := [(0, .ref o), (1, .int v1), (2, .int v2)]) kX8_aheadOf rfl rfl (Nat.le_of_ble_eq_true rfl) (fun Γ C E hNL => ?_)
  have J_5 : ∀ (n : Nat) (v1 : Int32) (v2 : Int32) (v3 : Int32) (v4 : Int32), Lp2 (b_X8_aheadOf_5 S  v1 v2) n v3 v4 = some x → G L Γ 0 0 (cells8 L o u S) 5 [(0, .ref o), (1, .int v1), (2, .int v2), (3, .int v3), (4, .int v4)] [] := by
    intro n v1 v2
    refine lp_ok2 (fun v3 v4 => G L Γ 0 0 (cells8 L o u S) 5 [(0, .ref o), (1, .int v1), (2, .int v2), (3, .int v3), (4, .int v4)] []) (fun k_5 hk_5 => ?_) n
    have J_70 : ∀ (v4 : Int32) (s0 : Int32) (s1 : Int32), j_X8_aheadOf_70 S k_5 v1 v2 v4 s0 s1 = some x → G L Γ 0 0 (cells8 L o u S) 70 [(0, .ref o), (1, .int v1), (2, .int v2), (4, .int v4)] [.int s0, .int s1] := by
      intro v4 s0 s1 h
      unfold j_X8_aheadOf_70 at h
      refine g_iadd C 71 dX8_aheadOf_70 rfl ?_
      refine g_istore_n C 72 3 [(3, .int (s1 + s0)), (0, .ref o), (1, .int v1), (2, .int v2), (4, .int v4)] dX8_aheadOf_71 rfl rfl 6 hNL (by decide) rfl ?_
      refine g_iinc C 75 (1 : Int32) 4 [(4, .int (v4 + (1 : Int32))), (3, .int (s1 + s0)), (0, .ref o), (1, .int v1), (2, .int v2)] dX8_aheadOf_72 rfl rfl 6 hNL (by decide) rfl rfl ?_
      refine g_goto C 5 dX8_aheadOf_75 (by decide) ?_
      refine g_lv (lv' := [(0, .ref o), (1, .int v1), (2, .int v2), (3, .int (s1 + s0)), (4, .int (v4 + (1 : Int32)))]) [2, 3, 4, 1, 0] rfl ?_
      exact hk_5 _ _ h
    have J_65 : ∀ (v4 : Int32) (s0 : Int32), j_X8_aheadOf_65 S k_5 v1 v2 v4 s0 = some x → G L Γ 0 0 (cells8 L o u S) 65 [(0, .ref o), (1, .int v1), (2, .int v2), (4, .int v4)] [.int s0] := by
      intro v4 s0 h
      unfold j_X8_aheadOf_65 at h
      refine g_iconst C 66 (1 : Int32) dX8_aheadOf_65 rfl rfl ?_
      refine g_goto C 70 dX8_aheadOf_66 (by decide) ?_
      exact J_70 _ _ _ h
    have J_69 : ∀ (v4 : Int32) (s0 : Int32), j_X8_aheadOf_69 S k_5 v1 v2 v4 s0 = some x → G L Γ 0 0 (cells8 L o u S) 69 [(0, .ref o), (1, .int v1), (2, .int v2), (4, .int v4)] [.int s0] := by
      intro v4 s0 h
      unfold j_X8_aheadOf_69 at h
      refine g_iconst C 70 (0 : Int32) dX8_aheadOf_69 rfl rfl ?_
      exact J_70 _ _ _ h
    intro v3 v4 h
    unfold b_X8_aheadOf_5 at h
    refine g_iload C 7 4 dX8_aheadOf_5 rfl rfl ?_
    refine g_aload_n C 8 0 dX8_aheadOf_7 rfl rfl ?_
    refine g_get (v := .int (S.1 9)) C 11 8 0 9 hin_8 rfl rfl (by decide) wf_X8_67 rfl dX8_aheadOf_8 rfl ?_
    refine g_icmp_ge C 78 14 dX8_aheadOf_11 (by decide) rfl (fun c => ?_) (fun c => ?_)
    · have h := ifT c h
      refine g_iload_n C 79 3 dX8_aheadOf_78 rfl rfl ?_
      exact g_iret (st := []) C E dX8_aheadOf_79 (by obtain rfl := Option.some.inj h; exact ⟨rfl, rfl⟩)
    · have h := ifF c h
      refine g_aload_n C 15 0 dX8_aheadOf_14 rfl rfl ?_
      refine g_iload_n C 16 1 dX8_aheadOf_15 rfl rfl ?_
      refine g_aload_n C 17 0 dX8_aheadOf_16 rfl rfl ?_
      refine g_get (v := .ref (u 4)) C 20 8 0 4 hin_8 rfl rfl (by decide) wf_X8_22 rfl dX8_aheadOf_17 rfl ?_
      refine g_iload_n C 21 2 dX8_aheadOf_20 rfl rfl ?_
      refine grdE h (fun hb h => ?_)
      refine g_iald (f := (S.2 4)) C 22 5 rfl hb dX8_aheadOf_21 rfl ?_
      refine g_aload_n C 23 0 dX8_aheadOf_22 rfl rfl ?_
      refine g_get (v := .int (S.1 10)) C 26 8 0 10 hin_8 rfl rfl (by decide) wf_X8_52 rfl dX8_aheadOf_23 rfl ?_
      refine bnd h (fun x1 e1 h => ?_)
      refine g_callVs (w' := (cells8 L o u S)) C 29 [] [.int x1] (ct_X8_faultsOn L o u S v1 ((S.2 4) (v2).toNatClampNeg) (S.1 10) x1 e1) kX8_faultsOn kvX8_faultsOn wl_X8_179 8 0 rfl rfl rfl rfl rfl rfl rfl (Nat.le_of_ble_eq_true rfl) ⟨Nat.le_of_ble_eq_true rfl, Nat.le_of_ble_eq_true rfl⟩ ⟨Nat.zero_le _, Nat.zero_le _⟩ dX8_aheadOf_26 rfl ?_
      refine g_aload_n C 30 0 dX8_aheadOf_29 rfl rfl ?_
      refine g_iload C 32 4 dX8_aheadOf_30 rfl rfl ?_
      refine g_aload_n C 33 0 dX8_aheadOf_32 rfl rfl ?_
      refine g_get (v := .ref (u 4)) C 36 8 0 4 hin_8 rfl rfl (by decide) wf_X8_22 rfl dX8_aheadOf_33 rfl ?_
      refine g_iload_n C 37 2 dX8_aheadOf_36 rfl rfl ?_
      refine grdE h (fun hb h => ?_)
      refine g_iald (f := (S.2 4)) C 38 5 rfl hb dX8_aheadOf_37 rfl ?_
      refine g_aload_n C 39 0 dX8_aheadOf_38 rfl rfl ?_
      refine g_get (v := .int (S.1 10)) C 42 8 0 10 hin_8 rfl rfl (by decide) wf_X8_52 rfl dX8_aheadOf_39 rfl ?_
      refine bnd h (fun x2 e2 h => ?_)
      refine g_callVs (w' := (cells8 L o u S)) C 45 [.int x1] [.int x2, .int x1] (ct_X8_faultsOn L o u S v4 ((S.2 4) (v2).toNatClampNeg) (S.1 10) x2 e2) kX8_faultsOn kvX8_faultsOn wl_X8_179 8 0 rfl rfl rfl rfl rfl rfl rfl (Nat.le_of_ble_eq_true rfl) ⟨Nat.le_of_ble_eq_true rfl, Nat.le_of_ble_eq_true rfl⟩ ⟨Nat.zero_le _, Nat.zero_le _⟩ dX8_aheadOf_42 rfl ?_
      refine g_isub C 46 dX8_aheadOf_45 rfl ?_
      refine g_istore C 48 5 [(5, .int (x1 - x2)), (0, .ref o), (1, .int v1), (2, .int v2), (3, .int v3), (4, .int v4)] dX8_aheadOf_46 rfl 6 hNL (by decide) rfl ?_
      refine g_iload_n C 49 4 dX8_aheadOf_48 rfl rfl ?_
      refine g_iload C 51 0 dX8_aheadOf_49 rfl rfl ?_
      refine g_if_gt C 65 54 dX8_aheadOf_51 (by decide) rfl (fun c => ?_) (fun c => ?_)
      · have h := ifT c h
        refine g_lv (lv' := [(0, .ref o), (1, .int v1), (2, .int v2), (4, .int v4)]) [1, 2, 3, 5] rfl ?_
        exact J_65 _ _ h
      · have h := ifF c h
        refine g_iload C 56 0 dX8_aheadOf_54 rfl rfl ?_
        refine g_if_ne C 69 59 dX8_aheadOf_56 (by decide) rfl (fun c => ?_) (fun c => ?_)
        · have h := ifF c h
          refine g_lv (lv' := [(0, .ref o), (1, .int v1), (2, .int v2), (4, .int v4)]) [1, 2, 3, 5] rfl ?_
          exact J_69 _ _ h
        · have h := ifT c h
          refine g_iload C 61 5 dX8_aheadOf_59 rfl rfl ?_
          refine g_iload_n C 62 2 dX8_aheadOf_61 rfl rfl ?_
          refine g_icmp_ge C 69 65 dX8_aheadOf_62 (by decide) rfl (fun c => ?_) (fun c => ?_)
          · have h := ifT c h
            refine g_lv (lv' := [(0, .ref o), (1, .int v1), (2, .int v2), (4, .int v4)]) [1, 2, 3, 5] rfl ?_
            exact J_69 _ _ h
          · have h := ifF c h
            refine g_lv (lv' := [(0, .ref o), (1, .int v1), (2, .int v2), (4, .int v4)]) [1, 2, 3, 5] rfl ?_
            exact J_65 _ _ h
  unfold f_X8_aheadOf at h
  refine g_iconst C 1 (0 : Int32) dX8_aheadOf_0 rfl rfl ?_
  refine g_istore_n C 2 3 [(3, .int (0 : Int32)), (0, .ref o), (1, .int v1), (2, .int v2)] dX8_aheadOf_1 rfl rfl 6 hNL (by decide) rfl ?_
  refine g_iconst C 3 (0 : Int32) dX8_aheadOf_2 rfl rfl ?_
  refine g_istore C 5 4 [(4, .int (0 : Int32)), (3, .int (0 : Int32)), (0, .ref o), (1, .int v1), (2, .int v2)] dX8_aheadOf_3 rfl 6 hNL (by decide) rfl ?_
  refine g_lv (lv' := [(0, .ref o), (1, .int v1), (2, .int v2), (3, .int (0 : Int32)), (4, .int (0 : Int32))]) [2, 3, 4, 1, 0] rfl ?_
  exact J_5 _ _ _ _ _ h
set_option maxHeartbeats 4000000 in
set_option maxRecDepth 100000 in
theorem ct_X8_rank (L : LL) (o : Nat) (u : Nat → Nat) (S : OS) (v1 : Int32) (v2 : Int32) (x : (Int32 × OS)) (h : f_X8_rank S v1 v2 = some x) : Ct L yX8_rank cX8_rank 5 (some .int) (rmk 5 0 0 120) 0 0 [.ref o, .int v1, .int v2] (cells8 L o u S) (Pv (some (.int x.1)) (cells8 L o u x.2)) := by
  refine g_enter (lv := [(0, .ref o), (1, .int v1), (2, .int v2)]) kX8_rank rfl rfl (Nat.le_of_ble_eq_true rfl) (fun Γ C E hNL => ?_)
  have J_36 : ∀ (n : Nat) (v1 : Int32) (v2 : Int32) (S : OS) (v4 : Int32), Lp1 (b_X8_rank_36   v1 v2 S) n v4 = some x → G L Γ 0 0 (cells8 L o u S) 36 [(0, .ref o), (1, .int v1), (2, .int v2), (4, .int v4)] [] := by
    intro n v1 v2 S
    refine lp_ok1 (fun v4 => G L Γ 0 0 (cells8 L o u S) 36 [(0, .ref o), (1, .int v1), (2, .int v2), (4, .int v4)] []) (fun k_36 hk_36 => ?_) n
    intro v4 h
    unfold b_X8_rank_36 at h
    refine g_iload C 38 3 dX8_rank_36 rfl rfl ?_
    refine g_aload_n C 39 0 dX8_rank_38 rfl rfl ?_
    refine g_get (v := .int (S.1 9)) C 42 8 0 9 hin_8 rfl rfl (by decide) wf_X8_67 rfl dX8_rank_39 rfl ?_
    refine g_icmp_ge C 65 45 dX8_rank_42 (by decide) rfl (fun c => ?_) (fun c => ?_)
    · have h := ifT c h
      refine g_bipush C 67 (-9 : Int32) dX8_rank_65 rfl rfl ?_
      exact g_iret (st := []) C E dX8_rank_67 (by obtain rfl := Option.some.inj h; exact ⟨rfl, rfl⟩)
    · have h := ifF c h
      refine g_aload_n C 46 0 dX8_rank_45 rfl rfl ?_
      refine g_iload C 48 3 dX8_rank_46 rfl rfl ?_
      refine g_iload_n C 49 1 dX8_rank_48 rfl rfl ?_
      refine bnd h (fun x3 e3 h => ?_)
      refine g_callVs (w' := (cells8 L o u S)) C 52 [] [.int x3] (ct_X8_aheadOf L o u S v4 v1 x3 e3) kX8_aheadOf kvX8_aheadOf wl_X8_264 8 0 rfl rfl rfl rfl rfl rfl rfl (Nat.le_of_ble_eq_true rfl) ⟨Nat.le_of_ble_eq_true rfl, Nat.le_of_ble_eq_true rfl⟩ ⟨Nat.zero_le _, Nat.zero_le _⟩ dX8_rank_49 rfl ?_
      refine g_iload_n C 53 2 dX8_rank_52 rfl rfl ?_
      refine g_icmp_ne C 59 56 dX8_rank_53 (by decide) rfl (fun c => ?_) (fun c => ?_)
      · have h := ifF c h
        refine g_iinc C 62 (1 : Int32) 3 [(4, .int (v4 + (1 : Int32))), (0, .ref o), (1, .int v1), (2, .int v2)] dX8_rank_59 rfl rfl 5 hNL (by decide) rfl rfl ?_
        refine g_goto C 36 dX8_rank_62 (by decide) ?_
        refine g_lv (lv' := [(0, .ref o), (1, .int v1), (2, .int v2), (4, .int (v4 + (1 : Int32)))]) [1, 2, 3, 0] rfl ?_
        exact hk_36 _ h
      · have h := ifT c h
        refine g_iload C 58 3 dX8_rank_56 rfl rfl ?_
        exact g_iret (st := []) C E dX8_rank_58 (by obtain rfl := Option.some.inj h; exact ⟨rfl, rfl⟩)
  have J_22 : ∀ (v1 : Int32) (v2 : Int32) (s0 : Int32) (S : OS), j_X8_rank_22   v1 v2 s0 S = some x → G L Γ 0 0 (cells8 L o u S) 22 [(0, .ref o), (1, .int v1), (2, .int v2)] [.int s0] := by
    intro v1 v2 s0 S h
    unfold j_X8_rank_22 at h
    refine g_istore_n C 23 3 [(3, .int s0), (0, .ref o), (1, .int v1), (2, .int v2)] dX8_rank_22 rfl rfl 5 hNL (by decide) rfl ?_
    refine g_iload_n C 24 0 dX8_rank_23 rfl rfl ?_
    refine g_if_eq C 33 27 dX8_rank_24 (by decide) rfl (fun c => ?_) (fun c => ?_)
    · have h := ifT c h
      refine g_iconst C 34 (0 : Int32) dX8_rank_33 rfl rfl ?_
      refine g_istore C 36 4 [(4, .int (0 : Int32)), (3, .int s0), (0, .ref o), (1, .int v1), (2, .int v2)] dX8_rank_34 rfl 5 hNL (by decide) rfl ?_
      refine g_lv (lv' := [(0, .ref o), (1, .int v1), (2, .int v2), (4, .int (0 : Int32))]) [2, 3, 4, 0] rfl ?_
      exact J_36 _ _ _ _ _ h
    · have h := ifF c h
      refine g_aload_n C 28 1 dX8_rank_27 rfl rfl ?_
      refine g_iload_n C 29 0 dX8_rank_28 rfl rfl ?_
      refine bnd h (fun x2 e2 h => ?_)
      refine g_callVs (w' := (cells8 L o u x2.2)) C 32 [] [.int x2.1] (ct_X8_no L o u S s0 x2 e2) kX8_no kvX8_no wl_X8_77 8 0 rfl rfl rfl rfl rfl rfl rfl (Nat.le_of_ble_eq_true rfl) ⟨Nat.le_of_ble_eq_true rfl, Nat.le_of_ble_eq_true rfl⟩ ⟨Nat.zero_le _, Nat.zero_le _⟩ dX8_rank_29 rfl ?_
      exact g_iret (st := []) C E dX8_rank_32 (by obtain rfl := Option.some.inj h; exact ⟨rfl, rfl⟩)
  unfold f_X8_rank at h
  refine g_aload_n C 1 0 dX8_rank_0 rfl rfl ?_
  refine g_iload_n C 2 1 dX8_rank_1 rfl rfl ?_
  refine bnd h (fun x1 e1 h => ?_)
  refine g_callVs (w' := (cells8 L o u S)) C 5 [] [.int x1] (ct_X8_isWay L o u S v1 x1 e1) kX8_isWay kvX8_isWay wl_X8_120 8 0 rfl rfl rfl rfl rfl rfl rfl (Nat.le_of_ble_eq_true rfl) ⟨Nat.le_of_ble_eq_true rfl, Nat.le_of_ble_eq_true rfl⟩ ⟨Nat.zero_le _, Nat.zero_le _⟩ dX8_rank_2 rfl ?_
  refine g_if_ne C 12 8 dX8_rank_5 (by decide) rfl (fun c => ?_) (fun c => ?_)
  · have h := ifF c h
    refine g_iload_n C 13 2 dX8_rank_12 rfl rfl ?_
    refine g_if_ge C 21 16 dX8_rank_13 (by decide) rfl (fun c => ?_) (fun c => ?_)
    · have h := ifT c h
      refine g_iconst C 22 (0 : Int32) dX8_rank_21 rfl rfl ?_
      exact J_22 _ _ _ _ h
    · have h := ifF c h
      refine g_bipush C 18 (-4 : Int32) dX8_rank_16 rfl rfl ?_
      refine g_goto C 22 dX8_rank_18 (by decide) ?_
      exact J_22 _ _ _ _ h
  · have h := ifT c h
    refine g_iconst C 9 (-1 : Int32) dX8_rank_8 rfl rfl ?_
    refine g_goto C 22 dX8_rank_9 (by decide) ?_
    exact J_22 _ _ _ _ h
set_option maxHeartbeats 4000000 in
set_option maxRecDepth 100000 in
theorem ct_X8_skillWanted (L : LL) (o : Nat) (u : Nat → Nat) (S : OS) (v1 : Int32) (v2 : Int32) (v3 : Int32) (x : (Int32 × OS)) (h : f_X8_skillWanted S v1 v2 v3 = some x) : Ct L yX8_skillWanted cX8_skillWanted 7 (some .int) (rmk 6 0 0 142) 0 0 [.ref o, .int v1, .int v2, .int v3] (cells8 L o u S) (Pv (some (.int x.1)) (cells8 L o u x.2)) := by
  refine g_enter (lv := [(0, .ref o), (1, .int v1), (2, .int v2), (3, .int v3)]) kX8_skillWanted rfl rfl (Nat.le_of_ble_eq_true rfl) (fun Γ C E hNL => ?_)
  have J_76 : ∀ (v1 : Int32) (v4 : Int32) (v5 : Int32) (S : OS), j_X8_skillWanted_76   v1 v4 v5 S = some x → G L Γ 0 0 (cells8 L o u S) 76 [(0, .ref o), (1, .int v1), (4, .int v4), (5, .int v5)] [] := by
    intro v1 v4 v5 S h
    unfold j_X8_skillWanted_76 at h
    refine g_aload_n C 77 0 dX8_skillWanted_76 rfl rfl ?_
    refine g_get (v := .ref (u 5)) C 80 8 0 5 hin_8 rfl rfl (by decide) wf_X8_25 rfl dX8_skillWanted_77 rfl ?_
    refine g_iload_n C 81 1 dX8_skillWanted_80 rfl rfl ?_
    refine g_iload C 83 2 dX8_skillWanted_81 rfl rfl ?_
    refine grdE h (fun hb h => ?_)
    refine g_iast (f := (S.2 5)) (w' := (cells8 L o u (sa S 5 (upd (S.2 5) (v1).toNatClampNeg v4)))) C 84 6 rfl hb dX8_skillWanted_83 rfl rfl ?_
    refine g_iload C 86 3 dX8_skillWanted_84 rfl rfl ?_
    exact g_iret (st := []) C E dX8_skillWanted_86 (by obtain rfl := Option.some.inj h; exact ⟨rfl, rfl⟩)
  have J_31 : ∀ (n : Nat) (v1 : Int32) (v2 : Int32) (v3 : Int32) (v4 : Int32) (v5 : Int32) (v6 : Int32) (S : OS), Lp3 (b_X8_skillWanted_31   v1 v2 v3 v4) n v5 v6 S = some x → G L Γ 0 0 (cells8 L o u S) 31 [(0, .ref o), (1, .int v1), (2, .int v2), (3, .int v3), (4, .int v4), (5, .int v5), (6, .int v6)] [] := by
    intro n v1 v2 v3 v4
    refine lp_ok3 (fun v5 v6 S => G L Γ 0 0 (cells8 L o u S) 31 [(0, .ref o), (1, .int v1), (2, .int v2), (3, .int v3), (4, .int v4), (5, .int v5), (6, .int v6)] []) (fun k_31 hk_31 => ?_) n
    have J_68 : ∀ (v6 : Int32) (s0 : Int32) (S : OS), j_X8_skillWanted_68  k_31 v1 v2 v3 v4 v6 s0 S = some x → G L Γ 0 0 (cells8 L o u S) 68 [(0, .ref o), (1, .int v1), (2, .int v2), (3, .int v3), (4, .int v4), (6, .int v6)] [.int s0] := by
      intro v6 s0 S h
      unfold j_X8_skillWanted_68 at h
      refine g_istore C 70 5 [(5, .int s0), (0, .ref o), (1, .int v1), (2, .int v2), (3, .int v3), (4, .int v4), (6, .int v6)] dX8_skillWanted_68 rfl 7 hNL (by decide) rfl ?_
      refine g_iinc C 73 (1 : Int32) 6 [(6, .int (v6 + (1 : Int32))), (5, .int s0), (0, .ref o), (1, .int v1), (2, .int v2), (3, .int v3), (4, .int v4)] dX8_skillWanted_70 rfl rfl 7 hNL (by decide) rfl rfl ?_
      refine g_goto C 31 dX8_skillWanted_73 (by decide) ?_
      refine g_lv (lv' := [(0, .ref o), (1, .int v1), (2, .int v2), (3, .int v3), (4, .int v4), (5, .int s0), (6, .int (v6 + (1 : Int32)))]) [2, 3, 4, 5, 6, 1, 0] rfl ?_
      exact hk_31 _ _ _ h
    intro v5 v6 S h
    unfold b_X8_skillWanted_31 at h
    refine g_iload C 33 6 dX8_skillWanted_31 rfl rfl ?_
    refine g_bipush C 35 (10 : Int32) dX8_skillWanted_33 rfl rfl ?_
    refine g_icmp_ge C 76 38 dX8_skillWanted_35 (by decide) rfl (fun c => ?_) (fun c => ?_)
    · have h := ifT c h
      refine g_lv (lv' := [(0, .ref o), (1, .int v1), (4, .int v4), (5, .int v5)]) [0, 1, 4, 5] rfl ?_
      exact J_76 _ _ _ _ h
    · have h := ifF c h
      refine g_iload C 40 5 dX8_skillWanted_38 rfl rfl ?_
      refine g_if_ge C 76 43 dX8_skillWanted_40 (by decide) rfl (fun c => ?_) (fun c => ?_)
      · have h := ifT c h
        refine g_lv (lv' := [(0, .ref o), (1, .int v1), (4, .int v4), (5, .int v5)]) [0, 1, 4, 5] rfl ?_
        exact J_76 _ _ _ _ h
      · have h := ifF c h
        refine g_aload_n C 44 0 dX8_skillWanted_43 rfl rfl ?_
        refine g_get (v := .ref (u 5)) C 47 8 0 5 hin_8 rfl rfl (by decide) wf_X8_25 rfl dX8_skillWanted_44 rfl ?_
        refine g_iload_n C 48 1 dX8_skillWanted_47 rfl rfl ?_
        refine g_iload C 50 6 dX8_skillWanted_48 rfl rfl ?_
        refine grdE h (fun hb h => ?_)
        refine g_iast (f := (S.2 5)) (w' := (cells8 L o u (sa S 5 (upd (S.2 5) (v1).toNatClampNeg v6)))) C 51 6 rfl hb dX8_skillWanted_50 rfl rfl ?_
        refine g_aload_n C 52 0 dX8_skillWanted_51 rfl rfl ?_
        refine g_iload_n C 53 1 dX8_skillWanted_52 rfl rfl ?_
        refine g_iload_n C 54 2 dX8_skillWanted_53 rfl rfl ?_
        refine g_iload_n C 55 3 dX8_skillWanted_54 rfl rfl ?_
        refine bnd h (fun x3 e3 h => ?_)
        refine g_callVs (w' := (cells8 L o u (sa S 5 (upd (S.2 5) (v1).toNatClampNeg v6)))) C 58 [] [.int x3] (ct_X8_passesWay L o u (sa S 5 (upd (S.2 5) (v1).toNatClampNeg v6)) v1 v2 v3 x3 e3) kX8_passesWay kvX8_passesWay wl_X8_185 8 0 rfl rfl rfl rfl rfl rfl rfl (Nat.le_of_ble_eq_true rfl) ⟨Nat.le_of_ble_eq_true rfl, Nat.le_of_ble_eq_true rfl⟩ ⟨Nat.zero_le _, Nat.zero_le _⟩ dX8_skillWanted_55 rfl ?_
        refine g_if_eq C 66 61 dX8_skillWanted_58 (by decide) rfl (fun c => ?_) (fun c => ?_)
        · have h := ifT c h
          refine g_bipush C 68 (-9 : Int32) dX8_skillWanted_66 rfl rfl ?_
          refine g_lv (lv' := [(0, .ref o), (1, .int v1), (2, .int v2), (3, .int v3), (4, .int v4), (6, .int v6)]) [0, 1, 2, 3, 4, 6] rfl ?_
          exact J_68 _ _ _ h
        · have h := ifF c h
          refine g_iload C 63 6 dX8_skillWanted_61 rfl rfl ?_
          refine g_goto C 68 dX8_skillWanted_63 (by decide) ?_
          refine g_lv (lv' := [(0, .ref o), (1, .int v1), (2, .int v2), (3, .int v3), (4, .int v4), (6, .int v6)]) [0, 1, 2, 3, 4, 6] rfl ?_
          exact J_68 _ _ _ h
  unfold f_X8_skillWanted at h
  refine g_aload_n C 1 0 dX8_skillWanted_0 rfl rfl ?_
  refine g_iload_n C 2 1 dX8_skillWanted_1 rfl rfl ?_
  refine g_iload_n C 3 2 dX8_skillWanted_2 rfl rfl ?_
  refine g_iload_n C 4 3 dX8_skillWanted_3 rfl rfl ?_
  refine bnd h (fun x1 e1 h => ?_)
  refine g_callVs (w' := (cells8 L o u S)) C 7 [] [.int x1] (ct_X8_areAll L o u S v1 v2 v3 x1 e1) kX8_areAll kvX8_areAll wl_X8_203 8 0 rfl rfl rfl rfl rfl rfl rfl (Nat.le_of_ble_eq_true rfl) ⟨Nat.le_of_ble_eq_true rfl, Nat.le_of_ble_eq_true rfl⟩ ⟨Nat.zero_le _, Nat.zero_le _⟩ dX8_skillWanted_4 rfl ?_
  refine g_if_ne C 16 10 dX8_skillWanted_7 (by decide) rfl (fun c => ?_) (fun c => ?_)
  · have h := ifF c h
    refine g_aload_n C 17 0 dX8_skillWanted_16 rfl rfl ?_
    refine g_get (v := .ref (u 5)) C 20 8 0 5 hin_8 rfl rfl (by decide) wf_X8_25 rfl dX8_skillWanted_17 rfl ?_
    refine g_iload_n C 21 1 dX8_skillWanted_20 rfl rfl ?_
    refine grdE h (fun hb h => ?_)
    refine g_iald (f := (S.2 5)) C 22 6 rfl hb dX8_skillWanted_21 rfl ?_
    refine g_istore C 24 4 [(4, .int ((S.2 5) (v1).toNatClampNeg)), (0, .ref o), (1, .int v1), (2, .int v2), (3, .int v3)] dX8_skillWanted_22 rfl 7 hNL (by decide) rfl ?_
    refine g_bipush C 26 (-9 : Int32) dX8_skillWanted_24 rfl rfl ?_
    refine g_istore C 28 5 [(5, .int (-9 : Int32)), (4, .int ((S.2 5) (v1).toNatClampNeg)), (0, .ref o), (1, .int v1), (2, .int v2), (3, .int v3)] dX8_skillWanted_26 rfl 7 hNL (by decide) rfl ?_
    refine g_iconst C 29 (0 : Int32) dX8_skillWanted_28 rfl rfl ?_
    refine g_istore C 31 6 [(6, .int (0 : Int32)), (5, .int (-9 : Int32)), (4, .int ((S.2 5) (v1).toNatClampNeg)), (0, .ref o), (1, .int v1), (2, .int v2), (3, .int v3)] dX8_skillWanted_29 rfl 7 hNL (by decide) rfl ?_
    refine g_lv (lv' := [(0, .ref o), (1, .int v1), (2, .int v2), (3, .int v3), (4, .int ((S.2 5) (v1).toNatClampNeg)), (5, .int (-9 : Int32)), (6, .int (0 : Int32))]) [3, 4, 5, 6, 2, 1, 0] rfl ?_
    exact J_31 _ _ _ _ _ _ _ _ h
  · have h := ifT c h
    refine g_aload_n C 11 0 dX8_skillWanted_10 rfl rfl ?_
    refine g_iconst C 12 (-1 : Int32) dX8_skillWanted_11 rfl rfl ?_
    refine bnd h (fun x2 e2 h => ?_)
    refine g_callVs (w' := (cells8 L o u x2.2)) C 15 [] [.int x2.1] (ct_X8_no L o u S (-1 : Int32) x2 e2) kX8_no kvX8_no wl_X8_77 8 0 rfl rfl rfl rfl rfl rfl rfl (Nat.le_of_ble_eq_true rfl) ⟨Nat.le_of_ble_eq_true rfl, Nat.le_of_ble_eq_true rfl⟩ ⟨Nat.zero_le _, Nat.zero_le _⟩ dX8_skillWanted_12 rfl ?_
    exact g_iret (st := []) C E dX8_skillWanted_15 (by obtain rfl := Option.some.inj h; exact ⟨rfl, rfl⟩)
set_option maxHeartbeats 4000000 in
set_option maxRecDepth 100000 in
theorem ct_X8_allPass (L : LL) (o : Nat) (u : Nat → Nat) (S : OS) (x : Int32) (h : f_X8_allPass S = some x) : Ct L yX8_allPass cX8_allPass 2 (some .boolean) (rmk 7 0 0 166) 0 0 [.ref o] (cells8 L o u S) (Pv (some (.int x)) (cells8 L o u S)) := by
  refine g_enter (lv := [(0, .ref o)]) kX8_allPass rfl rfl (Nat.le_of_ble_eq_true rfl) (fun Γ C E hNL => ?_)
  have J_2 : ∀ (n : Nat)  (v1 : Int32), Lp1 (b_X8_allPass_2 S  ) n v1 = some x → G L Γ 0 0 (cells8 L o u S) 2 [(0, .ref o), (1, .int v1)] [] := by
    intro n 
    refine lp_ok1 (fun v1 => G L Γ 0 0 (cells8 L o u S) 2 [(0, .ref o), (1, .int v1)] []) (fun k_2 hk_2 => ?_) n
    intro v1 h
    unfold b_X8_allPass_2 at h
    refine g_iload_n C 3 1 dX8_allPass_2 rfl rfl ?_
    refine g_aload_n C 4 0 dX8_allPass_3 rfl rfl ?_
    refine g_get (v := .int (S.1 9)) C 7 8 0 9 hin_8 rfl rfl (by decide) wf_X8_67 rfl dX8_allPass_4 rfl ?_
    refine g_icmp_ge C 38 10 dX8_allPass_7 (by decide) rfl (fun c => ?_) (fun c => ?_)
    · have h := ifT c h
      refine g_iconst C 39 (1 : Int32) dX8_allPass_38 rfl rfl ?_
      exact g_zret (st := []) C E dX8_allPass_39 rfl (by obtain rfl := Option.some.inj h; exact ⟨rfl, rfl⟩)
    · have h := ifF c h
      refine g_aload_n C 11 0 dX8_allPass_10 rfl rfl ?_
      refine g_iload_n C 12 1 dX8_allPass_11 rfl rfl ?_
      refine g_aload_n C 13 0 dX8_allPass_12 rfl rfl ?_
      refine g_get (v := .int (S.1 10)) C 16 8 0 10 hin_8 rfl rfl (by decide) wf_X8_52 rfl dX8_allPass_13 rfl ?_
      refine bnd h (fun x1 e1 h => ?_)
      refine g_callVs (w' := (cells8 L o u S)) C 19 [] [.int x1] (ct_X8_passedWays L o u S v1 (S.1 10) x1 e1) kX8_passedWays kvX8_passedWays wl_X8_209 8 0 rfl rfl rfl rfl rfl rfl rfl (Nat.le_of_ble_eq_true rfl) ⟨Nat.le_of_ble_eq_true rfl, Nat.le_of_ble_eq_true rfl⟩ ⟨Nat.zero_le _, Nat.zero_le _⟩ dX8_allPass_16 rfl ?_
      refine g_iconst C 20 (1 : Int32) dX8_allPass_19 rfl rfl ?_
      refine g_aload_n C 21 0 dX8_allPass_20 rfl rfl ?_
      refine g_get (v := .int (S.1 8)) C 24 8 0 8 hin_8 rfl rfl (by decide) wf_X8_64 rfl dX8_allPass_21 rfl ?_
      refine g_ishl C 25 dX8_allPass_24 rfl ?_
      refine g_iconst C 26 (1 : Int32) dX8_allPass_25 rfl rfl ?_
      refine g_isub C 27 dX8_allPass_26 rfl ?_
      refine g_icmp_eq C 32 30 dX8_allPass_27 (by decide) rfl (fun c => ?_) (fun c => ?_)
      · have h := ifT c h
        refine g_iinc C 35 (1 : Int32) 1 [(1, .int (v1 + (1 : Int32))), (0, .ref o)] dX8_allPass_32 rfl rfl 2 hNL (by decide) rfl rfl ?_
        refine g_goto C 2 dX8_allPass_35 (by decide) ?_
        refine g_lv (lv' := [(0, .ref o), (1, .int (v1 + (1 : Int32)))]) [1, 0] rfl ?_
        exact hk_2 _ h
      · have h := ifF c h
        refine g_iconst C 31 (0 : Int32) dX8_allPass_30 rfl rfl ?_
        exact g_zret (st := []) C E dX8_allPass_31 rfl (by obtain rfl := Option.some.inj h; exact ⟨rfl, rfl⟩)
  unfold f_X8_allPass at h
  refine g_iconst C 1 (0 : Int32) dX8_allPass_0 rfl rfl ?_
  refine g_istore_n C 2 1 [(1, .int (0 : Int32)), (0, .ref o)] dX8_allPass_1 rfl rfl 2 hNL (by decide) rfl ?_
  refine g_lv (lv' := [(0, .ref o), (1, .int (0 : Int32))]) [1, 0] rfl ?_
  exact J_2 _ _ h
set_option maxHeartbeats 4000000 in
set_option maxRecDepth 100000 in
theorem ct_X8_limitWanted (L : LL) (o : Nat) (u : Nat → Nat) (S : OS) (x : (Int32 × OS)) (h : f_X8_limitWanted S = some x) : Ct L yX8_limitWanted cX8_limitWanted 4 (some .int) (rmk 8 0 0 187) 0 0 [.ref o] (cells8 L o u S) (Pv (some (.int x.1)) (cells8 L o u x.2)) := by
  refine g_enter (lv := [(0, .ref o)]) kX8_limitWanted rfl rfl (Nat.le_of_ble_eq_true rfl) (fun Γ C E hNL => ?_)
  have J_10 : ∀ (n : Nat) (v1 : Int32) (v2 : Int32) (v3 : Int32) (S : OS), Lp3 (b_X8_limitWanted_10   v1) n v2 v3 S = some x → G L Γ 0 0 (cells8 L o u S) 10 [(0, .ref o), (1, .int v1), (2, .int v2), (3, .int v3)] [] := by
    intro n v1
    refine lp_ok3 (fun v2 v3 S => G L Γ 0 0 (cells8 L o u S) 10 [(0, .ref o), (1, .int v1), (2, .int v2), (3, .int v3)] []) (fun k_10 hk_10 => ?_) n
    have J_38 : ∀ (v3 : Int32) (s0 : Int32) (S : OS), j_X8_limitWanted_38  k_10 v1 v3 s0 S = some x → G L Γ 0 0 (cells8 L o u S) 38 [(0, .ref o), (1, .int v1), (3, .int v3)] [.int s0] := by
      intro v3 s0 S h
      unfold j_X8_limitWanted_38 at h
      refine g_istore_n C 39 2 [(2, .int s0), (0, .ref o), (1, .int v1), (3, .int v3)] dX8_limitWanted_38 rfl rfl 4 hNL (by decide) rfl ?_
      refine g_iinc C 42 (1 : Int32) 3 [(3, .int (v3 + (1 : Int32))), (2, .int s0), (0, .ref o), (1, .int v1)] dX8_limitWanted_39 rfl rfl 4 hNL (by decide) rfl rfl ?_
      refine g_goto C 10 dX8_limitWanted_42 (by decide) ?_
      refine g_lv (lv' := [(0, .ref o), (1, .int v1), (2, .int s0), (3, .int (v3 + (1 : Int32)))]) [2, 3, 1, 0] rfl ?_
      exact hk_10 _ _ _ h
    intro v2 v3 S h
    unfold b_X8_limitWanted_10 at h
    refine g_iload_n C 11 3 dX8_limitWanted_10 rfl rfl ?_
    refine g_bipush C 13 (99 : Int32) dX8_limitWanted_11 rfl rfl ?_
    refine g_icmp_gt C 45 16 dX8_limitWanted_13 (by decide) rfl (fun c => ?_) (fun c => ?_)
    · have h := ifT c h
      refine g_aload_n C 46 0 dX8_limitWanted_45 rfl rfl ?_
      refine g_iload_n C 47 1 dX8_limitWanted_46 rfl rfl ?_
      refine g_put (w' := (cells8 L o u (su S 11 v1))) C 50 8 0 11 hin_8 tyX8 tyX8_ok nmX8 rfl rfl (by decide) wf_X8_56 rfl rfl rfl (Nat.le_of_ble_eq_true rfl) dX8_limitWanted_47 rfl rfl ?_
      refine g_iload_n C 51 2 dX8_limitWanted_50 rfl rfl ?_
      exact g_iret (st := []) C E dX8_limitWanted_51 (by obtain rfl := Option.some.inj h; exact ⟨rfl, rfl⟩)
    · have h := ifF c h
      refine g_iload_n C 17 2 dX8_limitWanted_16 rfl rfl ?_
      refine g_if_ge C 45 20 dX8_limitWanted_17 (by decide) rfl (fun c => ?_) (fun c => ?_)
      · have h := ifT c h
        refine g_aload_n C 46 0 dX8_limitWanted_45 rfl rfl ?_
        refine g_iload_n C 47 1 dX8_limitWanted_46 rfl rfl ?_
        refine g_put (w' := (cells8 L o u (su S 11 v1))) C 50 8 0 11 hin_8 tyX8 tyX8_ok nmX8 rfl rfl (by decide) wf_X8_56 rfl rfl rfl (Nat.le_of_ble_eq_true rfl) dX8_limitWanted_47 rfl rfl ?_
        refine g_iload_n C 51 2 dX8_limitWanted_50 rfl rfl ?_
        exact g_iret (st := []) C E dX8_limitWanted_51 (by obtain rfl := Option.some.inj h; exact ⟨rfl, rfl⟩)
      · have h := ifF c h
        refine g_aload_n C 21 0 dX8_limitWanted_20 rfl rfl ?_
        refine g_iload_n C 22 3 dX8_limitWanted_21 rfl rfl ?_
        refine g_put (w' := (cells8 L o u (su S 11 v3))) C 25 8 0 11 hin_8 tyX8 tyX8_ok nmX8 rfl rfl (by decide) wf_X8_56 rfl rfl rfl (Nat.le_of_ble_eq_true rfl) dX8_limitWanted_22 rfl rfl ?_
        refine g_aload_n C 26 0 dX8_limitWanted_25 rfl rfl ?_
        refine bnd h (fun x1 e1 h => ?_)
        refine g_callVs (w' := (cells8 L o u (su S 11 v3))) C 29 [] [.int x1] (ct_X8_allPass L o u (su S 11 v3) x1 e1) kX8_allPass kvX8_allPass wl_X8_267 8 0 rfl rfl rfl rfl rfl rfl rfl (Nat.le_of_ble_eq_true rfl) ⟨Nat.le_of_ble_eq_true rfl, Nat.le_of_ble_eq_true rfl⟩ ⟨Nat.zero_le _, Nat.zero_le _⟩ dX8_limitWanted_26 rfl ?_
        refine g_if_eq C 36 32 dX8_limitWanted_29 (by decide) rfl (fun c => ?_) (fun c => ?_)
        · have h := ifT c h
          refine g_bipush C 38 (-9 : Int32) dX8_limitWanted_36 rfl rfl ?_
          refine g_lv (lv' := [(0, .ref o), (1, .int v1), (3, .int v3)]) [0, 1, 3] rfl ?_
          exact J_38 _ _ _ h
        · have h := ifF c h
          refine g_iload_n C 33 3 dX8_limitWanted_32 rfl rfl ?_
          refine g_goto C 38 dX8_limitWanted_33 (by decide) ?_
          refine g_lv (lv' := [(0, .ref o), (1, .int v1), (3, .int v3)]) [0, 1, 3] rfl ?_
          exact J_38 _ _ _ h
  unfold f_X8_limitWanted at h
  refine g_aload_n C 1 0 dX8_limitWanted_0 rfl rfl ?_
  refine g_get (v := .int (S.1 11)) C 4 8 0 11 hin_8 rfl rfl (by decide) wf_X8_56 rfl dX8_limitWanted_1 rfl ?_
  refine g_istore_n C 5 1 [(1, .int (S.1 11)), (0, .ref o)] dX8_limitWanted_4 rfl rfl 4 hNL (by decide) rfl ?_
  refine g_bipush C 7 (-9 : Int32) dX8_limitWanted_5 rfl rfl ?_
  refine g_istore_n C 8 2 [(2, .int (-9 : Int32)), (1, .int (S.1 11)), (0, .ref o)] dX8_limitWanted_7 rfl rfl 4 hNL (by decide) rfl ?_
  refine g_iconst C 9 (0 : Int32) dX8_limitWanted_8 rfl rfl ?_
  refine g_istore_n C 10 3 [(3, .int (0 : Int32)), (2, .int (-9 : Int32)), (1, .int (S.1 11)), (0, .ref o)] dX8_limitWanted_9 rfl rfl 4 hNL (by decide) rfl ?_
  refine g_lv (lv' := [(0, .ref o), (1, .int (S.1 11)), (2, .int (-9 : Int32)), (3, .int (0 : Int32))]) [3, 2, 1, 0] rfl ?_
  exact J_10 _ _ _ _ _ h
set_option maxHeartbeats 4000000 in
set_option maxRecDepth 100000 in
theorem ct_X8_manyPass (L : LL) (o : Nat) (u : Nat → Nat) (S : OS) (v1 : Int32) (v2 : Int32) (x : Int32) (h : f_X8_manyPass S v1 v2 = some x) : Ct L yX8_manyPass cX8_manyPass 5 (some .int) (rmk 6 0 0 142) 0 0 [.ref o, .int v1, .int v2] (cells8 L o u S) (Pv (some (.int x)) (cells8 L o u S)) := by
  refine g_enter (lv := [(0, .ref o), (1, .int v1), (2, .int v2)]) kX8_manyPass rfl rfl (Nat.le_of_ble_eq_true rfl) (fun Γ C E hNL => ?_)
  have J_5 : ∀ (n : Nat) (v1 : Int32) (v2 : Int32) (v3 : Int32) (v4 : Int32), Lp2 (b_X8_manyPass_5 S  v1 v2) n v3 v4 = some x → G L Γ 0 0 (cells8 L o u S) 5 [(0, .ref o), (1, .int v1), (2, .int v2), (3, .int v3), (4, .int v4)] [] := by
    intro n v1 v2
    refine lp_ok2 (fun v3 v4 => G L Γ 0 0 (cells8 L o u S) 5 [(0, .ref o), (1, .int v1), (2, .int v2), (3, .int v3), (4, .int v4)] []) (fun k_5 hk_5 => ?_) n
    have J_31 : ∀ (v4 : Int32) (s0 : Int32) (s1 : Int32), j_X8_manyPass_31 S k_5 v1 v2 v4 s0 s1 = some x → G L Γ 0 0 (cells8 L o u S) 31 [(0, .ref o), (1, .int v1), (2, .int v2), (4, .int v4)] [.int s0, .int s1] := by
      intro v4 s0 s1 h
      unfold j_X8_manyPass_31 at h
      refine g_iadd C 32 dX8_manyPass_31 rfl ?_
      refine g_istore_n C 33 3 [(3, .int (s1 + s0)), (0, .ref o), (1, .int v1), (2, .int v2), (4, .int v4)] dX8_manyPass_32 rfl rfl 5 hNL (by decide) rfl ?_
      refine g_iinc C 36 (1 : Int32) 4 [(4, .int (v4 + (1 : Int32))), (3, .int (s1 + s0)), (0, .ref o), (1, .int v1), (2, .int v2)] dX8_manyPass_33 rfl rfl 5 hNL (by decide) rfl rfl ?_
      refine g_goto C 5 dX8_manyPass_36 (by decide) ?_
      refine g_lv (lv' := [(0, .ref o), (1, .int v1), (2, .int v2), (3, .int (s1 + s0)), (4, .int (v4 + (1 : Int32)))]) [2, 3, 4, 1, 0] rfl ?_
      exact hk_5 _ _ h
    intro v3 v4 h
    unfold b_X8_manyPass_5 at h
    refine g_iload C 7 4 dX8_manyPass_5 rfl rfl ?_
    refine g_aload_n C 8 0 dX8_manyPass_7 rfl rfl ?_
    refine g_get (v := .int (S.1 9)) C 11 8 0 9 hin_8 rfl rfl (by decide) wf_X8_67 rfl dX8_manyPass_8 rfl ?_
    refine g_icmp_ge C 39 14 dX8_manyPass_11 (by decide) rfl (fun c => ?_) (fun c => ?_)
    · have h := ifT c h
      refine g_iload_n C 40 3 dX8_manyPass_39 rfl rfl ?_
      exact g_iret (st := []) C E dX8_manyPass_40 (by obtain rfl := Option.some.inj h; exact ⟨rfl, rfl⟩)
    · have h := ifF c h
      refine g_iload_n C 15 3 dX8_manyPass_14 rfl rfl ?_
      refine g_aload_n C 16 0 dX8_manyPass_15 rfl rfl ?_
      refine g_iload C 18 4 dX8_manyPass_16 rfl rfl ?_
      refine g_iload_n C 19 1 dX8_manyPass_18 rfl rfl ?_
      refine g_iload_n C 20 2 dX8_manyPass_19 rfl rfl ?_
      refine bnd h (fun x1 e1 h => ?_)
      refine g_callVs (w' := (cells8 L o u S)) C 23 [.int v3] [.int x1, .int v3] (ct_X8_passesWay L o u S v4 v1 v2 x1 e1) kX8_passesWay kvX8_passesWay wl_X8_185 8 0 rfl rfl rfl rfl rfl rfl rfl (Nat.le_of_ble_eq_true rfl) ⟨Nat.le_of_ble_eq_true rfl, Nat.le_of_ble_eq_true rfl⟩ ⟨Nat.zero_le _, Nat.zero_le _⟩ dX8_manyPass_20 rfl ?_
      refine g_if_eq C 30 26 dX8_manyPass_23 (by decide) rfl (fun c => ?_) (fun c => ?_)
      · have h := ifT c h
        refine g_iconst C 31 (0 : Int32) dX8_manyPass_30 rfl rfl ?_
        refine g_lv (lv' := [(0, .ref o), (1, .int v1), (2, .int v2), (4, .int v4)]) [0, 1, 2, 4] rfl ?_
        exact J_31 _ _ _ h
      · have h := ifF c h
        refine g_iconst C 27 (1 : Int32) dX8_manyPass_26 rfl rfl ?_
        refine g_goto C 31 dX8_manyPass_27 (by decide) ?_
        refine g_lv (lv' := [(0, .ref o), (1, .int v1), (2, .int v2), (4, .int v4)]) [0, 1, 2, 4] rfl ?_
        exact J_31 _ _ _ h
  unfold f_X8_manyPass at h
  refine g_iconst C 1 (0 : Int32) dX8_manyPass_0 rfl rfl ?_
  refine g_istore_n C 2 3 [(3, .int (0 : Int32)), (0, .ref o), (1, .int v1), (2, .int v2)] dX8_manyPass_1 rfl rfl 5 hNL (by decide) rfl ?_
  refine g_iconst C 3 (0 : Int32) dX8_manyPass_2 rfl rfl ?_
  refine g_istore C 5 4 [(4, .int (0 : Int32)), (3, .int (0 : Int32)), (0, .ref o), (1, .int v1), (2, .int v2)] dX8_manyPass_3 rfl 5 hNL (by decide) rfl ?_
  refine g_lv (lv' := [(0, .ref o), (1, .int v1), (2, .int v2), (3, .int (0 : Int32)), (4, .int (0 : Int32))]) [2, 3, 4, 1, 0] rfl ?_
  exact J_5 _ _ _ _ _ h
set_option maxHeartbeats 4000000 in
set_option maxRecDepth 100000 in
theorem ct_X8_rush (L : LL) (o : Nat) (u : Nat → Nat) (S : OS) (v1 : Int32) (v2 : Int32) (x : (Int32 × OS)) (h : f_X8_rush S v1 v2 = some x) : Ct L yX8_rush cX8_rush 6 (some .int) (rmk 7 0 0 166) 0 0 [.ref o, .int v1, .int v2] (cells8 L o u S) (Pv (some (.int x.1)) (cells8 L o u x.2)) := by
  refine g_enter (lv := [(0, .ref o), (1, .int v1), (2, .int v2)]) kX8_rush rfl rfl (Nat.le_of_ble_eq_true rfl) (fun Γ C E hNL => ?_)
  have J_83 : ∀ (v1 : Int32) (v2 : Int32) (v4 : Int32) (S : OS), j_X8_rush_83   v1 v2 v4 S = some x → G L Γ 0 0 (cells8 L o u S) 83 [(0, .ref o), (1, .int v1), (2, .int v2), (4, .int v4)] [] := by
    intro v1 v2 v4 S h
    unfold j_X8_rush_83 at h
    refine g_iload_n C 84 2 dX8_rush_83 rfl rfl ?_
    refine g_if_ne C 92 87 dX8_rush_84 (by decide) rfl (fun c => ?_) (fun c => ?_)
    · have h := ifF c h
      refine g_aload_n C 93 0 dX8_rush_92 rfl rfl ?_
      refine g_iload_n C 94 1 dX8_rush_93 rfl rfl ?_
      refine g_iload C 96 3 dX8_rush_94 rfl rfl ?_
      refine bnd h (fun x6 e6 h => ?_)
      refine g_callVs (w' := (cells8 L o u S)) C 99 [] [.int x6] (ct_X8_manyPass L o u S v1 v4 x6 e6) kX8_manyPass kvX8_manyPass wl_X8_270 8 0 rfl rfl rfl rfl rfl rfl rfl (Nat.le_of_ble_eq_true rfl) ⟨Nat.le_of_ble_eq_true rfl, Nat.le_of_ble_eq_true rfl⟩ ⟨Nat.zero_le _, Nat.zero_le _⟩ dX8_rush_96 rfl ?_
      exact g_iret (st := []) C E dX8_rush_99 (by obtain rfl := Option.some.inj h; exact ⟨rfl, rfl⟩)
    · have h := ifT c h
      refine g_iload C 89 3 dX8_rush_87 rfl rfl ?_
      refine g_goto C 99 dX8_rush_89 (by decide) ?_
      exact g_iret (st := []) C E dX8_rush_99 (by obtain rfl := Option.some.inj h; exact ⟨rfl, rfl⟩)
  have J_44 : ∀ (n : Nat) (v1 : Int32) (v2 : Int32) (S : OS) (v4 : Int32) (v5 : Int32), Lp2 (b_X8_rush_44   v1 v2 S) n v4 v5 = some x → G L Γ 0 0 (cells8 L o u S) 44 [(0, .ref o), (1, .int v1), (2, .int v2), (4, .int v4), (5, .int v5)] [] := by
    intro n v1 v2 S
    refine lp_ok2 (fun v4 v5 => G L Γ 0 0 (cells8 L o u S) 44 [(0, .ref o), (1, .int v1), (2, .int v2), (4, .int v4), (5, .int v5)] []) (fun k_44 hk_44 => ?_) n
    have J_75 : ∀ (v5 : Int32) (s0 : Int32), j_X8_rush_75  k_44 v1 v2 v5 s0 S = some x → G L Γ 0 0 (cells8 L o u S) 75 [(0, .ref o), (1, .int v1), (2, .int v2), (5, .int v5)] [.int s0] := by
      intro v5 s0 h
      unfold j_X8_rush_75 at h
      refine g_istore C 77 4 [(4, .int s0), (0, .ref o), (1, .int v1), (2, .int v2), (5, .int v5)] dX8_rush_75 rfl 6 hNL (by decide) rfl ?_
      refine g_iinc C 80 (1 : Int32) 4 [(5, .int (v5 + (1 : Int32))), (4, .int s0), (0, .ref o), (1, .int v1), (2, .int v2)] dX8_rush_77 rfl rfl 6 hNL (by decide) rfl rfl ?_
      refine g_goto C 44 dX8_rush_80 (by decide) ?_
      refine g_lv (lv' := [(0, .ref o), (1, .int v1), (2, .int v2), (4, .int s0), (5, .int (v5 + (1 : Int32)))]) [2, 3, 4, 1, 0] rfl ?_
      exact hk_44 _ _ h
    intro v4 v5 h
    unfold b_X8_rush_44 at h
    refine g_iload C 46 4 dX8_rush_44 rfl rfl ?_
    refine g_bipush C 48 (24 : Int32) dX8_rush_46 rfl rfl ?_
    refine g_icmp_ge C 83 51 dX8_rush_48 (by decide) rfl (fun c => ?_) (fun c => ?_)
    · have h := ifT c h
      refine g_lv (lv' := [(0, .ref o), (1, .int v1), (2, .int v2), (4, .int v4)]) [0, 1, 2, 3] rfl ?_
      exact J_83 _ _ _ _ h
    · have h := ifF c h
      refine g_aload_n C 52 0 dX8_rush_51 rfl rfl ?_
      refine g_iload_n C 53 1 dX8_rush_52 rfl rfl ?_
      refine g_iload C 55 4 dX8_rush_53 rfl rfl ?_
      refine bnd h (fun x4 e4 h => ?_)
      refine g_callVs (w' := (cells8 L o u S)) C 58 [] [.int x4] (ct_X8_manyPass L o u S v1 v5 x4 e4) kX8_manyPass kvX8_manyPass wl_X8_270 8 0 rfl rfl rfl rfl rfl rfl rfl (Nat.le_of_ble_eq_true rfl) ⟨Nat.le_of_ble_eq_true rfl, Nat.le_of_ble_eq_true rfl⟩ ⟨Nat.zero_le _, Nat.zero_le _⟩ dX8_rush_55 rfl ?_
      refine g_aload_n C 59 0 dX8_rush_58 rfl rfl ?_
      refine g_iload_n C 60 1 dX8_rush_59 rfl rfl ?_
      refine g_iload C 62 3 dX8_rush_60 rfl rfl ?_
      refine bnd h (fun x5 e5 h => ?_)
      refine g_callVs (w' := (cells8 L o u S)) C 65 [.int x4] [.int x5, .int x4] (ct_X8_manyPass L o u S v1 v4 x5 e5) kX8_manyPass kvX8_manyPass wl_X8_270 8 0 rfl rfl rfl rfl rfl rfl rfl (Nat.le_of_ble_eq_true rfl) ⟨Nat.le_of_ble_eq_true rfl, Nat.le_of_ble_eq_true rfl⟩ ⟨Nat.zero_le _, Nat.zero_le _⟩ dX8_rush_62 rfl ?_
      refine g_icmp_le C 73 68 dX8_rush_65 (by decide) rfl (fun c => ?_) (fun c => ?_)
      · have h := ifT c h
        refine g_iload C 75 3 dX8_rush_73 rfl rfl ?_
        refine g_lv (lv' := [(0, .ref o), (1, .int v1), (2, .int v2), (5, .int v5)]) [0, 1, 2, 4] rfl ?_
        exact J_75 _ _ h
      · have h := ifF c h
        refine g_iload C 70 4 dX8_rush_68 rfl rfl ?_
        refine g_goto C 75 dX8_rush_70 (by decide) ?_
        refine g_lv (lv' := [(0, .ref o), (1, .int v1), (2, .int v2), (5, .int v5)]) [0, 1, 2, 4] rfl ?_
        exact J_75 _ _ h
  have J_27 : ∀ (v1 : Int32) (v2 : Int32) (s0 : Int32) (S : OS), j_X8_rush_27   v1 v2 s0 S = some x → G L Γ 0 0 (cells8 L o u S) 27 [(0, .ref o), (1, .int v1), (2, .int v2)] [.int s0] := by
    intro v1 v2 s0 S h
    unfold j_X8_rush_27 at h
    refine g_istore_n C 28 3 [(3, .int s0), (0, .ref o), (1, .int v1), (2, .int v2)] dX8_rush_27 rfl rfl 6 hNL (by decide) rfl ?_
    refine g_iload_n C 29 0 dX8_rush_28 rfl rfl ?_
    refine g_if_eq C 38 32 dX8_rush_29 (by decide) rfl (fun c => ?_) (fun c => ?_)
    · have h := ifT c h
      refine g_iconst C 39 (0 : Int32) dX8_rush_38 rfl rfl ?_
      refine g_istore C 41 4 [(4, .int (0 : Int32)), (3, .int s0), (0, .ref o), (1, .int v1), (2, .int v2)] dX8_rush_39 rfl 6 hNL (by decide) rfl ?_
      refine g_iconst C 42 (1 : Int32) dX8_rush_41 rfl rfl ?_
      refine g_istore C 44 5 [(5, .int (1 : Int32)), (4, .int (0 : Int32)), (3, .int s0), (0, .ref o), (1, .int v1), (2, .int v2)] dX8_rush_42 rfl 6 hNL (by decide) rfl ?_
      refine g_lv (lv' := [(0, .ref o), (1, .int v1), (2, .int v2), (4, .int (0 : Int32)), (5, .int (1 : Int32))]) [3, 4, 5, 1, 0] rfl ?_
      exact J_44 _ _ _ _ _ _ h
    · have h := ifF c h
      refine g_aload_n C 33 1 dX8_rush_32 rfl rfl ?_
      refine g_iload_n C 34 0 dX8_rush_33 rfl rfl ?_
      refine bnd h (fun x3 e3 h => ?_)
      refine g_callVs (w' := (cells8 L o u x3.2)) C 37 [] [.int x3.1] (ct_X8_no L o u S s0 x3 e3) kX8_no kvX8_no wl_X8_77 8 0 rfl rfl rfl rfl rfl rfl rfl (Nat.le_of_ble_eq_true rfl) ⟨Nat.le_of_ble_eq_true rfl, Nat.le_of_ble_eq_true rfl⟩ ⟨Nat.zero_le _, Nat.zero_le _⟩ dX8_rush_34 rfl ?_
      exact g_iret (st := []) C E dX8_rush_37 (by obtain rfl := Option.some.inj h; exact ⟨rfl, rfl⟩)
  unfold f_X8_rush at h
  refine g_aload_n C 1 0 dX8_rush_0 rfl rfl ?_
  refine g_iload_n C 2 1 dX8_rush_1 rfl rfl ?_
  refine bnd h (fun x1 e1 h => ?_)
  refine g_callVs (w' := (cells8 L o u S)) C 5 [] [.int x1] (ct_X8_isWay L o u S v1 x1 e1) kX8_isWay kvX8_isWay wl_X8_120 8 0 rfl rfl rfl rfl rfl rfl rfl (Nat.le_of_ble_eq_true rfl) ⟨Nat.le_of_ble_eq_true rfl, Nat.le_of_ble_eq_true rfl⟩ ⟨Nat.zero_le _, Nat.zero_le _⟩ dX8_rush_2 rfl ?_
  refine g_if_ne C 12 8 dX8_rush_5 (by decide) rfl (fun c => ?_) (fun c => ?_)
  · have h := ifF c h
    refine g_iload_n C 13 2 dX8_rush_12 rfl rfl ?_
    refine g_iconst C 14 (0 : Int32) dX8_rush_13 rfl rfl ?_
    refine g_iconst C 15 (1 : Int32) dX8_rush_14 rfl rfl ?_
    refine bnd h (fun x2 e2 h => ?_)
    refine g_callSr C 18 [] [.int x2] (ct_X8_isIn L v2 (0 : Int32) (1 : Int32) x2 e2) kX8_isIn kvX8_isIn wl_X8_88 [] rfl rfl rfl rfl rfl (Nat.le_of_ble_eq_true rfl) ⟨Nat.le_of_ble_eq_true rfl, Nat.le_of_ble_eq_true rfl⟩ ⟨Nat.zero_le _, Nat.zero_le _⟩ dX8_rush_15 rfl ?_
    refine g_if_ne C 26 21 dX8_rush_18 (by decide) rfl (fun c => ?_) (fun c => ?_)
    · have h := ifF c h
      refine g_iconst C 27 (0 : Int32) dX8_rush_26 rfl rfl ?_
      exact J_27 _ _ _ _ h
    · have h := ifT c h
      refine g_bipush C 23 (-2 : Int32) dX8_rush_21 rfl rfl ?_
      refine g_goto C 27 dX8_rush_23 (by decide) ?_
      exact J_27 _ _ _ _ h
  · have h := ifT c h
    refine g_iconst C 9 (-1 : Int32) dX8_rush_8 rfl rfl ?_
    refine g_goto C 27 dX8_rush_9 (by decide) ?_
    exact J_27 _ _ _ _ h
set_option maxHeartbeats 4000000 in
set_option maxRecDepth 100000 in
theorem ct_X8_newPasses (L : LL) (o : Nat) (u : Nat → Nat) (S : OS) (v1 : Int32) (v2 : Int32) (x : Int32) (h : f_X8_newPasses S v1 v2 = some x) : Ct L yX8_newPasses cX8_newPasses 6 (some .boolean) (rmk 2 0 0 46) 0 0 [.ref o, .int v1, .int v2] (cells8 L o u S) (Pv (some (.int x)) (cells8 L o u S)) := by
  refine g_enter (lv := [(0, .ref o), (1, .int v1), (2, .int v2)]) kX8_newPasses rfl rfl (Nat.le_of_ble_eq_true rfl) (fun Γ C E hNL => ?_)
  have J_74 : ∀ (v3 : Int32), j_X8_newPasses_74 S  v3 = some x → G L Γ 0 0 (cells8 L o u S) 74 [(0, .ref o), (3, .int v3)] [] := by
    intro v3 h
    unfold j_X8_newPasses_74 at h
    refine g_iload_n C 75 1 dX8_newPasses_74 rfl rfl ?_
    refine g_aload_n C 76 0 dX8_newPasses_75 rfl rfl ?_
    refine g_get (v := .int (S.1 11)) C 79 8 0 11 hin_8 rfl rfl (by decide) wf_X8_56 rfl dX8_newPasses_76 rfl ?_
    refine g_icmp_gt C 86 82 dX8_newPasses_79 (by decide) rfl (fun c => ?_) (fun c => ?_)
    · have h := ifT c h
      refine g_iconst C 87 (0 : Int32) dX8_newPasses_86 rfl rfl ?_
      exact g_zret (st := []) C E dX8_newPasses_87 rfl (by obtain rfl := Option.some.inj h; exact ⟨rfl, rfl⟩)
    · have h := ifF c h
      refine g_iconst C 83 (1 : Int32) dX8_newPasses_82 rfl rfl ?_
      refine g_goto C 87 dX8_newPasses_83 (by decide) ?_
      exact g_zret (st := []) C E dX8_newPasses_87 rfl (by obtain rfl := Option.some.inj h; exact ⟨rfl, rfl⟩)
  have J_5 : ∀ (n : Nat) (v1 : Int32) (v2 : Int32) (v3 : Int32) (v4 : Int32), Lp2 (b_X8_newPasses_5 S  v1 v2) n v3 v4 = some x → G L Γ 0 0 (cells8 L o u S) 5 [(0, .ref o), (1, .int v1), (2, .int v2), (3, .int v3), (4, .int v4)] [] := by
    intro n v1 v2
    refine lp_ok2 (fun v3 v4 => G L Γ 0 0 (cells8 L o u S) 5 [(0, .ref o), (1, .int v1), (2, .int v2), (3, .int v3), (4, .int v4)] []) (fun k_5 hk_5 => ?_) n
    have J_53 : ∀ (v3 : Int32) (v4 : Int32) (s0 : Int32), j_X8_newPasses_53 S k_5 v1 v2 v3 v4 s0 = some x → G L Γ 0 0 (cells8 L o u S) 53 [(0, .ref o), (1, .int v1), (2, .int v2), (3, .int v3), (4, .int v4)] [.int s0] := by
      intro v3 v4 s0 h
      unfold j_X8_newPasses_53 at h
      refine g_istore C 55 5 [(5, .int s0), (0, .ref o), (1, .int v1), (2, .int v2), (3, .int v3), (4, .int v4)] dX8_newPasses_53 rfl 6 hNL (by decide) rfl ?_
      refine g_iload C 57 0 dX8_newPasses_55 rfl rfl ?_
      refine g_iconst C 58 (5 : Int32) dX8_newPasses_57 rfl rfl ?_
      refine g_icmp_le C 63 61 dX8_newPasses_58 (by decide) rfl (fun c => ?_) (fun c => ?_)
      · have h := ifT c h
        refine g_iload_n C 64 4 dX8_newPasses_63 rfl rfl ?_
        refine g_iload C 66 0 dX8_newPasses_64 rfl rfl ?_
        refine g_iadd C 67 dX8_newPasses_66 rfl ?_
        refine g_istore_n C 68 3 [(3, .int (v3 + s0)), (5, .int s0), (0, .ref o), (1, .int v1), (2, .int v2), (4, .int v4)] dX8_newPasses_67 rfl rfl 6 hNL (by decide) rfl ?_
        refine g_iinc C 71 (1 : Int32) 5 [(4, .int (v4 + (1 : Int32))), (3, .int (v3 + s0)), (5, .int s0), (0, .ref o), (1, .int v1), (2, .int v2)] dX8_newPasses_68 rfl rfl 6 hNL (by decide) rfl rfl ?_
        refine g_goto C 5 dX8_newPasses_71 (by decide) ?_
        refine g_lv (lv' := [(0, .ref o), (1, .int v1), (2, .int v2), (3, .int (v3 + s0)), (4, .int (v4 + (1 : Int32)))]) [3, 4, 5, 1, 0] rfl ?_
        exact hk_5 _ _ h
      · have h := ifF c h
        refine g_iconst C 62 (0 : Int32) dX8_newPasses_61 rfl rfl ?_
        exact g_zret (st := []) C E dX8_newPasses_62 rfl (by obtain rfl := Option.some.inj h; exact ⟨rfl, rfl⟩)
    have J_52 : ∀ (v3 : Int32) (v4 : Int32), j_X8_newPasses_52 S k_5 v1 v2 v3 v4 = some x → G L Γ 0 0 (cells8 L o u S) 52 [(0, .ref o), (1, .int v1), (2, .int v2), (3, .int v3), (4, .int v4)] [] := by
      intro v3 v4 h
      unfold j_X8_newPasses_52 at h
      refine g_iconst C 53 (0 : Int32) dX8_newPasses_52 rfl rfl ?_
      exact J_53 _ _ _ h
    intro v3 v4 h
    unfold b_X8_newPasses_5 at h
    refine g_iload C 7 4 dX8_newPasses_5 rfl rfl ?_
    refine g_aload_n C 8 0 dX8_newPasses_7 rfl rfl ?_
    refine g_get (v := .int (S.1 7)) C 11 8 0 7 hin_8 rfl rfl (by decide) wf_X8_61 rfl dX8_newPasses_8 rfl ?_
    refine g_icmp_ge C 74 14 dX8_newPasses_11 (by decide) rfl (fun c => ?_) (fun c => ?_)
    · have h := ifT c h
      refine g_lv (lv' := [(0, .ref o), (3, .int v3)]) [0, 3] rfl ?_
      exact J_74 _ h
    · have h := ifF c h
      refine g_iload_n C 15 2 dX8_newPasses_14 rfl rfl ?_
      refine g_iload C 17 4 dX8_newPasses_15 rfl rfl ?_
      refine bnd h (fun x1 e1 h => ?_)
      refine g_callSr C 20 [] [.int x1] (ct_X8_has L v2 v4 x1 e1) kX8_has kvX8_has wl_X8_173 [] rfl rfl rfl rfl rfl (Nat.le_of_ble_eq_true rfl) ⟨Nat.le_of_ble_eq_true rfl, Nat.le_of_ble_eq_true rfl⟩ ⟨Nat.zero_le _, Nat.zero_le _⟩ dX8_newPasses_17 rfl ?_
      refine g_if_eq C 52 23 dX8_newPasses_20 (by decide) rfl (fun c => ?_) (fun c => ?_)
      · have h := ifT c h
        exact J_52 _ _ h
      · have h := ifF c h
        refine g_aload_n C 24 0 dX8_newPasses_23 rfl rfl ?_
        refine g_iload C 26 4 dX8_newPasses_24 rfl rfl ?_
        refine g_aload_n C 27 0 dX8_newPasses_26 rfl rfl ?_
        refine g_get (v := .int (S.1 10)) C 30 8 0 10 hin_8 rfl rfl (by decide) wf_X8_52 rfl dX8_newPasses_27 rfl ?_
        refine bnd h (fun x2 e2 h => ?_)
        refine g_callVs (w' := (cells8 L o u S)) C 33 [] [.int x2] (ct_X8_hardOf L o u S v4 (S.1 10) x2 e2) kX8_hardOf kvX8_hardOf wl_X8_169 8 0 rfl rfl rfl rfl rfl rfl rfl (Nat.le_of_ble_eq_true rfl) ⟨Nat.le_of_ble_eq_true rfl, Nat.le_of_ble_eq_true rfl⟩ ⟨Nat.zero_le _, Nat.zero_le _⟩ dX8_newPasses_30 rfl ?_
        refine g_iload_n C 34 1 dX8_newPasses_33 rfl rfl ?_
        refine g_icmp_le C 52 37 dX8_newPasses_34 (by decide) rfl (fun c => ?_) (fun c => ?_)
        · have h := ifT c h
          exact J_52 _ _ h
        · have h := ifF c h
          refine g_aload_n C 38 0 dX8_newPasses_37 rfl rfl ?_
          refine g_iload C 40 4 dX8_newPasses_38 rfl rfl ?_
          refine g_aload_n C 41 0 dX8_newPasses_40 rfl rfl ?_
          refine g_get (v := .int (S.1 10)) C 44 8 0 10 hin_8 rfl rfl (by decide) wf_X8_52 rfl dX8_newPasses_41 rfl ?_
          refine bnd h (fun x3 e3 h => ?_)
          refine g_callVs (w' := (cells8 L o u S)) C 47 [] [.int x3] (ct_X8_hardOf L o u S v4 (S.1 10) x3 e3) kX8_hardOf kvX8_hardOf wl_X8_169 8 0 rfl rfl rfl rfl rfl rfl rfl (Nat.le_of_ble_eq_true rfl) ⟨Nat.le_of_ble_eq_true rfl, Nat.le_of_ble_eq_true rfl⟩ ⟨Nat.zero_le _, Nat.zero_le _⟩ dX8_newPasses_44 rfl ?_
          refine g_iload_n C 48 1 dX8_newPasses_47 rfl rfl ?_
          refine g_isub C 49 dX8_newPasses_48 rfl ?_
          refine g_goto C 53 dX8_newPasses_49 (by decide) ?_
          exact J_53 _ _ _ h
  unfold f_X8_newPasses at h
  refine g_iconst C 1 (0 : Int32) dX8_newPasses_0 rfl rfl ?_
  refine g_istore_n C 2 3 [(3, .int (0 : Int32)), (0, .ref o), (1, .int v1), (2, .int v2)] dX8_newPasses_1 rfl rfl 6 hNL (by decide) rfl ?_
  refine g_iconst C 3 (0 : Int32) dX8_newPasses_2 rfl rfl ?_
  refine g_istore C 5 4 [(4, .int (0 : Int32)), (3, .int (0 : Int32)), (0, .ref o), (1, .int v1), (2, .int v2)] dX8_newPasses_3 rfl 6 hNL (by decide) rfl ?_
  refine g_lv (lv' := [(0, .ref o), (1, .int v1), (2, .int v2), (3, .int (0 : Int32)), (4, .int (0 : Int32))]) [2, 3, 4, 1, 0] rfl ?_
  exact J_5 _ _ _ _ _ h
set_option maxHeartbeats 4000000 in
set_option maxRecDepth 100000 in
theorem ct_X8_newcomer (L : LL) (o : Nat) (u : Nat → Nat) (S : OS) (v1 : Int32) (x : (Int32 × OS)) (h : f_X8_newcomer S v1 = some x) : Ct L yX8_newcomer cX8_newcomer 5 (some .int) (rmk 3 0 0 71) 0 0 [.ref o, .int v1] (cells8 L o u S) (Pv (some (.int x.1)) (cells8 L o u x.2)) := by
  refine g_enter (lv := [(0, .ref o), (1, .int v1)]) kX8_newcomer rfl rfl (Nat.le_of_ble_eq_true rfl) (fun Γ C E hNL => ?_)
  have J_23 : ∀ (n : Nat) (v1 : Int32) (S : OS) (v3 : Int32) (v4 : Int32), Lp2 (b_X8_newcomer_23   v1 S) n v3 v4 = some x → G L Γ 0 0 (cells8 L o u S) 23 [(0, .ref o), (1, .int v1), (3, .int v3), (4, .int v4)] [] := by
    intro n v1 S
    refine lp_ok2 (fun v3 v4 => G L Γ 0 0 (cells8 L o u S) 23 [(0, .ref o), (1, .int v1), (3, .int v3), (4, .int v4)] []) (fun k_23 hk_23 => ?_) n
    have J_56 : ∀ (v4 : Int32) (s0 : Int32) (s1 : Int32), j_X8_newcomer_56  k_23 v1 v4 s0 s1 S = some x → G L Γ 0 0 (cells8 L o u S) 56 [(0, .ref o), (1, .int v1), (4, .int v4)] [.int s0, .int s1] := by
      intro v4 s0 s1 h
      unfold j_X8_newcomer_56 at h
      refine g_ior C 57 dX8_newcomer_56 rfl ?_
      refine g_istore_n C 58 3 [(3, .int (s1 ||| s0)), (0, .ref o), (1, .int v1), (4, .int v4)] dX8_newcomer_57 rfl rfl 5 hNL (by decide) rfl ?_
      refine g_iinc C 61 (1 : Int32) 3 [(4, .int (v4 + (1 : Int32))), (3, .int (s1 ||| s0)), (0, .ref o), (1, .int v1)] dX8_newcomer_58 rfl rfl 5 hNL (by decide) rfl rfl ?_
      refine g_goto C 23 dX8_newcomer_61 (by decide) ?_
      refine g_lv (lv' := [(0, .ref o), (1, .int v1), (3, .int (s1 ||| s0)), (4, .int (v4 + (1 : Int32)))]) [2, 3, 1, 0] rfl ?_
      exact hk_23 _ _ h
    intro v3 v4 h
    unfold b_X8_newcomer_23 at h
    refine g_iload C 25 3 dX8_newcomer_23 rfl rfl ?_
    refine g_aload_n C 26 0 dX8_newcomer_25 rfl rfl ?_
    refine g_get (v := .int (S.1 8)) C 29 8 0 8 hin_8 rfl rfl (by decide) wf_X8_64 rfl dX8_newcomer_26 rfl ?_
    refine g_icmp_ge C 64 32 dX8_newcomer_29 (by decide) rfl (fun c => ?_) (fun c => ?_)
    · have h := ifT c h
      refine g_iload_n C 65 2 dX8_newcomer_64 rfl rfl ?_
      exact g_iret (st := []) C E dX8_newcomer_65 (by obtain rfl := Option.some.inj h; exact ⟨rfl, rfl⟩)
    · have h := ifF c h
      refine g_iload_n C 33 2 dX8_newcomer_32 rfl rfl ?_
      refine g_aload_n C 34 0 dX8_newcomer_33 rfl rfl ?_
      refine g_iload_n C 35 1 dX8_newcomer_34 rfl rfl ?_
      refine g_aload_n C 36 0 dX8_newcomer_35 rfl rfl ?_
      refine g_get (v := .ref (u 4)) C 39 8 0 4 hin_8 rfl rfl (by decide) wf_X8_22 rfl dX8_newcomer_36 rfl ?_
      refine g_iload C 41 3 dX8_newcomer_39 rfl rfl ?_
      refine grdE h (fun hb h => ?_)
      refine g_iald (f := (S.2 4)) C 42 5 rfl hb dX8_newcomer_41 rfl ?_
      refine bnd h (fun x3 e3 h => ?_)
      refine g_callVs (w' := (cells8 L o u S)) C 45 [.int v3] [.int x3, .int v3] (ct_X8_newPasses L o u S v1 ((S.2 4) (v4).toNatClampNeg) x3 e3) kX8_newPasses kvX8_newPasses wl_X8_273 8 0 rfl rfl rfl rfl rfl rfl rfl (Nat.le_of_ble_eq_true rfl) ⟨Nat.le_of_ble_eq_true rfl, Nat.le_of_ble_eq_true rfl⟩ ⟨Nat.zero_le _, Nat.zero_le _⟩ dX8_newcomer_42 rfl ?_
      refine g_if_eq C 55 48 dX8_newcomer_45 (by decide) rfl (fun c => ?_) (fun c => ?_)
      · have h := ifT c h
        refine g_iconst C 56 (0 : Int32) dX8_newcomer_55 rfl rfl ?_
        refine g_lv (lv' := [(0, .ref o), (1, .int v1), (4, .int v4)]) [0, 1, 3] rfl ?_
        exact J_56 _ _ _ h
      · have h := ifF c h
        refine g_iconst C 49 (1 : Int32) dX8_newcomer_48 rfl rfl ?_
        refine g_iload C 51 3 dX8_newcomer_49 rfl rfl ?_
        refine g_ishl C 52 dX8_newcomer_51 rfl ?_
        refine g_goto C 56 dX8_newcomer_52 (by decide) ?_
        refine g_lv (lv' := [(0, .ref o), (1, .int v1), (4, .int v4)]) [0, 1, 3] rfl ?_
        exact J_56 _ _ _ h
  unfold f_X8_newcomer at h
  refine g_iload_n C 1 1 dX8_newcomer_0 rfl rfl ?_
  refine g_iconst C 2 (0 : Int32) dX8_newcomer_1 rfl rfl ?_
  refine g_bipush C 4 (9 : Int32) dX8_newcomer_2 rfl rfl ?_
  refine bnd h (fun x1 e1 h => ?_)
  refine g_callSr C 7 [] [.int x1] (ct_X8_bound L v1 (0 : Int32) (9 : Int32) x1 e1) kX8_bound kvX8_bound wl_X8_70 [] rfl rfl rfl rfl rfl (Nat.le_of_ble_eq_true rfl) ⟨Nat.le_of_ble_eq_true rfl, Nat.le_of_ble_eq_true rfl⟩ ⟨Nat.zero_le _, Nat.zero_le _⟩ dX8_newcomer_4 rfl ?_
  refine g_istore_n C 8 2 [(2, .int x1), (0, .ref o), (1, .int v1)] dX8_newcomer_7 rfl rfl 5 hNL (by decide) rfl ?_
  refine g_iload_n C 9 0 dX8_newcomer_8 rfl rfl ?_
  refine g_if_eq C 18 12 dX8_newcomer_9 (by decide) rfl (fun c => ?_) (fun c => ?_)
  · have h := ifT c h
    refine g_iconst C 19 (0 : Int32) dX8_newcomer_18 rfl rfl ?_
    refine g_istore_n C 20 3 [(3, .int (0 : Int32)), (2, .int x1), (0, .ref o), (1, .int v1)] dX8_newcomer_19 rfl rfl 5 hNL (by decide) rfl ?_
    refine g_iconst C 21 (0 : Int32) dX8_newcomer_20 rfl rfl ?_
    refine g_istore C 23 4 [(4, .int (0 : Int32)), (3, .int (0 : Int32)), (2, .int x1), (0, .ref o), (1, .int v1)] dX8_newcomer_21 rfl 5 hNL (by decide) rfl ?_
    refine g_lv (lv' := [(0, .ref o), (1, .int v1), (3, .int (0 : Int32)), (4, .int (0 : Int32))]) [3, 4, 1, 0] rfl ?_
    exact J_23 _ _ _ _ _ h
  · have h := ifF c h
    refine g_aload_n C 13 1 dX8_newcomer_12 rfl rfl ?_
    refine g_iload_n C 14 0 dX8_newcomer_13 rfl rfl ?_
    refine bnd h (fun x2 e2 h => ?_)
    refine g_callVs (w' := (cells8 L o u x2.2)) C 17 [] [.int x2.1] (ct_X8_no L o u S x1 x2 e2) kX8_no kvX8_no wl_X8_77 8 0 rfl rfl rfl rfl rfl rfl rfl (Nat.le_of_ble_eq_true rfl) ⟨Nat.le_of_ble_eq_true rfl, Nat.le_of_ble_eq_true rfl⟩ ⟨Nat.zero_le _, Nat.zero_le _⟩ dX8_newcomer_14 rfl ?_
    exact g_iret (st := []) C E dX8_newcomer_17 (by obtain rfl := Option.some.inj h; exact ⟨rfl, rfl⟩)
set_option maxHeartbeats 4000000 in
set_option maxRecDepth 100000 in
theorem ct_X8_passedAtAll (L : LL) (o : Nat) (u : Nat → Nat) (S : OS) (v1 : Int32) (x : Int32) (h : f_X8_passedAtAll S v1 = some x) : Ct L yX8_passedAtAll cX8_passedAtAll 4 (some .int) (rmk 7 0 0 166) 0 0 [.ref o, .int v1] (cells8 L o u S) (Pv (some (.int x)) (cells8 L o u S)) := by
  refine g_enter (lv := [(0, .ref o), (1, .int v1)]) kX8_passedAtAll rfl rfl (Nat.le_of_ble_eq_true rfl) (fun Γ C E hNL => ?_)
  have J_4 : ∀ (n : Nat) (v1 : Int32) (v2 : Int32) (v3 : Int32), Lp2 (b_X8_passedAtAll_4 S  v1) n v2 v3 = some x → G L Γ 0 0 (cells8 L o u S) 4 [(0, .ref o), (1, .int v1), (2, .int v2), (3, .int v3)] [] := by
    intro n v1
    refine lp_ok2 (fun v2 v3 => G L Γ 0 0 (cells8 L o u S) 4 [(0, .ref o), (1, .int v1), (2, .int v2), (3, .int v3)] []) (fun k_4 hk_4 => ?_) n
    intro v2 v3 h
    unfold b_X8_passedAtAll_4 at h
    refine g_iload_n C 5 3 dX8_passedAtAll_4 rfl rfl ?_
    refine g_bipush C 7 (24 : Int32) dX8_passedAtAll_5 rfl rfl ?_
    refine g_icmp_ge C 28 10 dX8_passedAtAll_7 (by decide) rfl (fun c => ?_) (fun c => ?_)
    · have h := ifT c h
      refine g_iload_n C 29 2 dX8_passedAtAll_28 rfl rfl ?_
      exact g_iret (st := []) C E dX8_passedAtAll_29 (by obtain rfl := Option.some.inj h; exact ⟨rfl, rfl⟩)
    · have h := ifF c h
      refine g_iload_n C 11 2 dX8_passedAtAll_10 rfl rfl ?_
      refine g_aload_n C 12 0 dX8_passedAtAll_11 rfl rfl ?_
      refine g_iload_n C 13 1 dX8_passedAtAll_12 rfl rfl ?_
      refine g_iload_n C 14 3 dX8_passedAtAll_13 rfl rfl ?_
      refine bnd h (fun x1 e1 h => ?_)
      refine g_callVs (w' := (cells8 L o u S)) C 17 [.int v2] [.int x1, .int v2] (ct_X8_passedWays L o u S v1 v3 x1 e1) kX8_passedWays kvX8_passedWays wl_X8_209 8 0 rfl rfl rfl rfl rfl rfl rfl (Nat.le_of_ble_eq_true rfl) ⟨Nat.le_of_ble_eq_true rfl, Nat.le_of_ble_eq_true rfl⟩ ⟨Nat.zero_le _, Nat.zero_le _⟩ dX8_passedAtAll_14 rfl ?_
      refine bnd h (fun x2 e2 h => ?_)
      refine g_callSr C 20 [.int v2] [.int x2, .int v2] (ct_X8_bits L x1 x2 e2) kX8_bits kvX8_bits wl_X8_212 [] rfl rfl rfl rfl rfl (Nat.le_of_ble_eq_true rfl) ⟨Nat.le_of_ble_eq_true rfl, Nat.le_of_ble_eq_true rfl⟩ ⟨Nat.zero_le _, Nat.zero_le _⟩ dX8_passedAtAll_17 rfl ?_
      refine g_iadd C 21 dX8_passedAtAll_20 rfl ?_
      refine g_istore_n C 22 2 [(2, .int (v2 + x2)), (0, .ref o), (1, .int v1), (3, .int v3)] dX8_passedAtAll_21 rfl rfl 4 hNL (by decide) rfl ?_
      refine g_iinc C 25 (1 : Int32) 3 [(3, .int (v3 + (1 : Int32))), (2, .int (v2 + x2)), (0, .ref o), (1, .int v1)] dX8_passedAtAll_22 rfl rfl 4 hNL (by decide) rfl rfl ?_
      refine g_goto C 4 dX8_passedAtAll_25 (by decide) ?_
      refine g_lv (lv' := [(0, .ref o), (1, .int v1), (2, .int (v2 + x2)), (3, .int (v3 + (1 : Int32)))]) [2, 3, 1, 0] rfl ?_
      exact hk_4 _ _ h
  unfold f_X8_passedAtAll at h
  refine g_iconst C 1 (0 : Int32) dX8_passedAtAll_0 rfl rfl ?_
  refine g_istore_n C 2 2 [(2, .int (0 : Int32)), (0, .ref o), (1, .int v1)] dX8_passedAtAll_1 rfl rfl 4 hNL (by decide) rfl ?_
  refine g_iconst C 3 (0 : Int32) dX8_passedAtAll_2 rfl rfl ?_
  refine g_istore_n C 4 3 [(3, .int (0 : Int32)), (2, .int (0 : Int32)), (0, .ref o), (1, .int v1)] dX8_passedAtAll_3 rfl rfl 4 hNL (by decide) rfl ?_
  refine g_lv (lv' := [(0, .ref o), (1, .int v1), (2, .int (0 : Int32)), (3, .int (0 : Int32))]) [2, 3, 1, 0] rfl ?_
  exact J_4 _ _ _ _ h
set_option maxHeartbeats 4000000 in
set_option maxRecDepth 100000 in
theorem ct_X8_gainOf (L : LL) (o : Nat) (u : Nat → Nat) (S : OS) (v1 : Int32) (v2 : Int32) (x : (Int32 × OS)) (h : f_X8_gainOf S v1 v2 = some x) : Ct L yX8_gainOf cX8_gainOf 6 (some .int) (rmk 8 0 0 189) 0 0 [.ref o, .int v1, .int v2] (cells8 L o u S) (Pv (some (.int x.1)) (cells8 L o u x.2)) := by
  refine g_enter (lv := [(0, .ref o), (1, .int v1), (2, .int v2)]) kX8_gainOf rfl rfl (Nat.le_of_ble_eq_true rfl) (fun Γ C E hNL => ?_)
  unfold f_X8_gainOf at h
  refine g_aload_n C 1 0 dX8_gainOf_0 rfl rfl ?_
  refine g_get (v := .ref (u 6)) C 4 8 0 6 hin_8 rfl rfl (by decide) wf_X8_28 rfl dX8_gainOf_1 rfl ?_
  refine g_iload_n C 5 1 dX8_gainOf_4 rfl rfl ?_
  refine grdE h (fun hb h => ?_)
  refine g_iald (f := (S.2 6)) C 6 7 rfl hb dX8_gainOf_5 rfl ?_
  refine g_istore_n C 7 3 [(3, .int ((S.2 6) (v1).toNatClampNeg)), (0, .ref o), (1, .int v1), (2, .int v2)] dX8_gainOf_6 rfl rfl 6 hNL (by decide) rfl ?_
  refine g_aload_n C 8 1 dX8_gainOf_7 rfl rfl ?_
  refine g_iload_n C 9 2 dX8_gainOf_8 rfl rfl ?_
  refine bnd h (fun x1 e1 h => ?_)
  refine g_callVs (w' := (cells8 L o u S)) C 12 [] [.int x1] (ct_X8_passedAtAll L o u S v1 x1 e1) kX8_passedAtAll kvX8_passedAtAll wl_X8_276 8 0 rfl rfl rfl rfl rfl rfl rfl (Nat.le_of_ble_eq_true rfl) ⟨Nat.le_of_ble_eq_true rfl, Nat.le_of_ble_eq_true rfl⟩ ⟨Nat.zero_le _, Nat.zero_le _⟩ dX8_gainOf_9 rfl ?_
  refine g_istore C 14 4 [(4, .int x1), (3, .int ((S.2 6) (v1).toNatClampNeg)), (0, .ref o), (1, .int v1), (2, .int v2)] dX8_gainOf_12 rfl 6 hNL (by decide) rfl ?_
  refine g_aload_n C 15 2 dX8_gainOf_14 rfl rfl ?_
  refine g_get (v := .ref (u 6)) C 18 8 0 6 hin_8 rfl rfl (by decide) wf_X8_28 rfl dX8_gainOf_15 rfl ?_
  refine g_iload_n C 19 3 dX8_gainOf_18 rfl rfl ?_
  refine g_dup2 C 20 dX8_gainOf_19 rfl rfl rfl ?_
  refine grdE h (fun hb h => ?_)
  refine g_iald (f := (S.2 6)) C 21 7 rfl hb dX8_gainOf_20 rfl ?_
  refine g_iconst C 22 (1 : Int32) dX8_gainOf_21 rfl rfl ?_
  refine g_iload_n C 23 4 dX8_gainOf_22 rfl rfl ?_
  refine g_ishl C 24 dX8_gainOf_23 rfl ?_
  refine g_ior C 25 dX8_gainOf_24 rfl ?_
  refine grdE h (fun hb h => ?_)
  refine g_iast (f := (S.2 6)) (w' := (cells8 L o u (sa S 6 (upd (S.2 6) (v1).toNatClampNeg (((S.2 6) (v1).toNatClampNeg) ||| ((1 : Int32) <<< (v2 &&& 31))))))) C 26 7 rfl hb dX8_gainOf_25 rfl rfl ?_
  refine g_aload_n C 27 2 dX8_gainOf_26 rfl rfl ?_
  refine g_iload_n C 28 3 dX8_gainOf_27 rfl rfl ?_
  refine bnd h (fun x2 e2 h => ?_)
  refine g_callVs (w' := (cells8 L o u (sa S 6 (upd (S.2 6) (v1).toNatClampNeg (((S.2 6) (v1).toNatClampNeg) ||| ((1 : Int32) <<< (v2 &&& 31))))))) C 31 [] [.int x2] (ct_X8_passedAtAll L o u (sa S 6 (upd (S.2 6) (v1).toNatClampNeg (((S.2 6) (v1).toNatClampNeg) ||| ((1 : Int32) <<< (v2 &&& 31))))) v1 x2 e2) kX8_passedAtAll kvX8_passedAtAll wl_X8_276 8 0 rfl rfl rfl rfl rfl rfl rfl (Nat.le_of_ble_eq_true rfl) ⟨Nat.le_of_ble_eq_true rfl, Nat.le_of_ble_eq_true rfl⟩ ⟨Nat.zero_le _, Nat.zero_le _⟩ dX8_gainOf_28 rfl ?_
  refine g_istore C 33 5 [(5, .int x2), (4, .int x1), (3, .int ((S.2 6) (v1).toNatClampNeg)), (0, .ref o), (1, .int v1), (2, .int v2)] dX8_gainOf_31 rfl 6 hNL (by decide) rfl ?_
  refine g_aload_n C 34 3 dX8_gainOf_33 rfl rfl ?_
  refine g_get (v := .ref (u 6)) C 37 8 0 6 hin_8 rfl rfl (by decide) wf_X8_28 rfl dX8_gainOf_34 rfl ?_
  refine g_iload_n C 38 4 dX8_gainOf_37 rfl rfl ?_
  refine g_iload_n C 39 2 dX8_gainOf_38 rfl rfl ?_
  refine grdE h (fun hb h => ?_)
  refine g_iast (f := (upd (S.2 6) (v1).toNatClampNeg (((S.2 6) (v1).toNatClampNeg) ||| ((1 : Int32) <<< (v2 &&& 31))))) (w' := (cells8 L o u (sa (sa S 6 (upd (S.2 6) (v1).toNatClampNeg (((S.2 6) (v1).toNatClampNeg) ||| ((1 : Int32) <<< (v2 &&& 31))))) 6 (upd (upd (S.2 6) (v1).toNatClampNeg (((S.2 6) (v1).toNatClampNeg) ||| ((1 : Int32) <<< (v2 &&& 31)))) (v1).toNatClampNeg ((S.2 6) (v1).toNatClampNeg))))) C 40 7 rfl hb dX8_gainOf_39 rfl rfl ?_
  refine g_iload C 42 0 dX8_gainOf_40 rfl rfl ?_
  refine g_iload C 44 1 dX8_gainOf_42 rfl rfl ?_
  refine g_isub C 45 dX8_gainOf_44 rfl ?_
  exact g_iret (st := []) C E dX8_gainOf_45 (by obtain rfl := Option.some.inj h; exact ⟨rfl, rfl⟩)
set_option maxHeartbeats 4000000 in
set_option maxRecDepth 100000 in
theorem ct_X8_gain (L : LL) (o : Nat) (u : Nat → Nat) (S : OS) (v1 : Int32) (v2 : Int32) (x : (Int32 × OS)) (h : f_X8_gain S v1 v2 = some x) : Ct L yX8_gain cX8_gain 5 (some .int) (rmk 9 0 0 214) 0 0 [.ref o, .int v1, .int v2] (cells8 L o u S) (Pv (some (.int x.1)) (cells8 L o u x.2)) := by
  refine g_enter (lv := [(0, .ref o), (1, .int v1), (2, .int v2)]) kX8_gain rfl rfl (Nat.le_of_ble_eq_true rfl) (fun Γ C E hNL => ?_)
  have J_44 : ∀ (n : Nat) (v1 : Int32) (v3 : Int32) (v4 : Int32) (S : OS), Lp3 (b_X8_gain_44   v1) n v3 v4 S = some x → G L Γ 0 0 (cells8 L o u S) 44 [(0, .ref o), (1, .int v1), (3, .int v3), (4, .int v4)] [] := by
    intro n v1
    refine lp_ok3 (fun v3 v4 S => G L Γ 0 0 (cells8 L o u S) 44 [(0, .ref o), (1, .int v1), (3, .int v3), (4, .int v4)] []) (fun k_44 hk_44 => ?_) n
    have J_90 : ∀ (v3 : Int32) (v4 : Int32) (S : OS), j_X8_gain_90  k_44 v1 v3 v4 S = some x → G L Γ 0 0 (cells8 L o u S) 90 [(0, .ref o), (1, .int v1), (3, .int v3), (4, .int v4)] [] := by
      intro v3 v4 S h
      unfold j_X8_gain_90 at h
      refine g_iinc C 93 (1 : Int32) 3 [(4, .int (v4 + (1 : Int32))), (0, .ref o), (1, .int v1), (3, .int v3)] dX8_gain_90 rfl rfl 5 hNL (by decide) rfl rfl ?_
      refine g_goto C 44 dX8_gain_93 (by decide) ?_
      refine g_lv (lv' := [(0, .ref o), (1, .int v1), (3, .int v3), (4, .int (v4 + (1 : Int32)))]) [1, 2, 3, 0] rfl ?_
      exact hk_44 _ _ _ h
    have J_87 : ∀ (v4 : Int32) (S : OS), j_X8_gain_87  k_44 v1 v4 S = some x → G L Γ 0 0 (cells8 L o u S) 87 [(0, .ref o), (1, .int v1), (4, .int v4)] [] := by
      intro v4 S h
      unfold j_X8_gain_87 at h
      refine g_iload C 89 2 dX8_gain_87 rfl rfl ?_
      refine g_istore_n C 90 3 [(3, .int v4), (0, .ref o), (1, .int v1), (4, .int v4)] dX8_gain_89 rfl rfl 5 hNL (by decide) rfl ?_
      refine g_lv (lv' := [(0, .ref o), (1, .int v1), (3, .int v4), (4, .int v4)]) [1, 2, 0, 3] rfl ?_
      exact J_90 _ _ _ h
    intro v3 v4 S h
    unfold b_X8_gain_44 at h
    refine g_iload C 46 3 dX8_gain_44 rfl rfl ?_
    refine g_aload_n C 47 0 dX8_gain_46 rfl rfl ?_
    refine g_get (v := .int (S.1 7)) C 50 8 0 7 hin_8 rfl rfl (by decide) wf_X8_61 rfl dX8_gain_47 rfl ?_
    refine g_icmp_ge C 96 53 dX8_gain_50 (by decide) rfl (fun c => ?_) (fun c => ?_)
    · have h := ifT c h
      refine g_iload_n C 97 2 dX8_gain_96 rfl rfl ?_
      exact g_iret (st := []) C E dX8_gain_97 (by obtain rfl := Option.some.inj h; exact ⟨rfl, rfl⟩)
    · have h := ifF c h
      refine g_aload_n C 54 0 dX8_gain_53 rfl rfl ?_
      refine g_get (v := .ref (u 6)) C 57 8 0 6 hin_8 rfl rfl (by decide) wf_X8_28 rfl dX8_gain_54 rfl ?_
      refine g_iload_n C 58 1 dX8_gain_57 rfl rfl ?_
      refine grdE h (fun hb h => ?_)
      refine g_iald (f := (S.2 6)) C 59 7 rfl hb dX8_gain_58 rfl ?_
      refine g_iload C 61 3 dX8_gain_59 rfl rfl ?_
      refine bnd h (fun x6 e6 h => ?_)
      refine g_callSr C 64 [] [.int x6] (ct_X8_has L ((S.2 6) (v1).toNatClampNeg) v4 x6 e6) kX8_has kvX8_has wl_X8_173 [] rfl rfl rfl rfl rfl (Nat.le_of_ble_eq_true rfl) ⟨Nat.le_of_ble_eq_true rfl, Nat.le_of_ble_eq_true rfl⟩ ⟨Nat.zero_le _, Nat.zero_le _⟩ dX8_gain_61 rfl ?_
      refine g_if_ne C 90 67 dX8_gain_64 (by decide) rfl (fun c => ?_) (fun c => ?_)
      · have h := ifF c h
        exact J_90 _ _ _ h
      · have h := ifT c h
        refine g_iload_n C 68 2 dX8_gain_67 rfl rfl ?_
        refine g_if_lt C 87 71 dX8_gain_68 (by decide) rfl (fun c => ?_) (fun c => ?_)
        · have h := ifT c h
          refine g_lv (lv' := [(0, .ref o), (1, .int v1), (4, .int v4)]) [0, 1, 3] rfl ?_
          exact J_87 _ _ h
        · have h := ifF c h
          refine g_aload_n C 72 0 dX8_gain_71 rfl rfl ?_
          refine g_iload_n C 73 1 dX8_gain_72 rfl rfl ?_
          refine g_iload C 75 3 dX8_gain_73 rfl rfl ?_
          refine bnd h (fun x7 e7 h => ?_)
          refine g_callVs (w' := (cells8 L o u x7.2)) C 78 [] [.int x7.1] (ct_X8_gainOf L o u S v1 v4 x7 e7) kX8_gainOf kvX8_gainOf wl_X8_279 8 0 rfl rfl rfl rfl rfl rfl rfl (Nat.le_of_ble_eq_true rfl) ⟨Nat.le_of_ble_eq_true rfl, Nat.le_of_ble_eq_true rfl⟩ ⟨Nat.zero_le _, Nat.zero_le _⟩ dX8_gain_75 rfl ?_
          refine g_aload_n C 79 0 dX8_gain_78 rfl rfl ?_
          refine g_iload_n C 80 1 dX8_gain_79 rfl rfl ?_
          refine g_iload_n C 81 2 dX8_gain_80 rfl rfl ?_
          refine bnd h (fun x8 e8 h => ?_)
          refine g_callVs (w' := (cells8 L o u x8.2)) C 84 [.int x7.1] [.int x8.1, .int x7.1] (ct_X8_gainOf L o u x7.2 v1 v3 x8 e8) kX8_gainOf kvX8_gainOf wl_X8_279 8 0 rfl rfl rfl rfl rfl rfl rfl (Nat.le_of_ble_eq_true rfl) ⟨Nat.le_of_ble_eq_true rfl, Nat.le_of_ble_eq_true rfl⟩ ⟨Nat.zero_le _, Nat.zero_le _⟩ dX8_gain_81 rfl ?_
          refine g_icmp_le C 90 87 dX8_gain_84 (by decide) rfl (fun c => ?_) (fun c => ?_)
          · have h := ifT c h
            exact J_90 _ _ _ h
          · have h := ifF c h
            refine g_lv (lv' := [(0, .ref o), (1, .int v1), (4, .int v4)]) [0, 1, 3] rfl ?_
            exact J_87 _ _ h
  have J_27 : ∀ (v1 : Int32) (v2 : Int32) (S : OS), j_X8_gain_27   v1 v2 S = some x → G L Γ 0 0 (cells8 L o u S) 27 [(0, .ref o), (1, .int v1), (2, .int v2)] [] := by
    intro v1 v2 S h
    unfold j_X8_gain_27 at h
    refine g_iload_n C 28 2 dX8_gain_27 rfl rfl ?_
    refine g_if_lt C 38 31 dX8_gain_28 (by decide) rfl (fun c => ?_) (fun c => ?_)
    · have h := ifT c h
      refine g_bipush C 40 (-9 : Int32) dX8_gain_38 rfl rfl ?_
      refine g_istore_n C 41 3 [(3, .int (-9 : Int32)), (0, .ref o), (1, .int v1), (2, .int v2)] dX8_gain_40 rfl rfl 5 hNL (by decide) rfl ?_
      refine g_iconst C 42 (0 : Int32) dX8_gain_41 rfl rfl ?_
      refine g_istore C 44 4 [(4, .int (0 : Int32)), (3, .int (-9 : Int32)), (0, .ref o), (1, .int v1), (2, .int v2)] dX8_gain_42 rfl 5 hNL (by decide) rfl ?_
      refine g_lv (lv' := [(0, .ref o), (1, .int v1), (3, .int (-9 : Int32)), (4, .int (0 : Int32))]) [2, 3, 1, 0] rfl ?_
      exact J_44 _ _ _ _ _ h
    · have h := ifF c h
      refine g_aload_n C 32 0 dX8_gain_31 rfl rfl ?_
      refine g_iload_n C 33 1 dX8_gain_32 rfl rfl ?_
      refine g_iload_n C 34 2 dX8_gain_33 rfl rfl ?_
      refine bnd h (fun x5 e5 h => ?_)
      refine g_callVs (w' := (cells8 L o u x5.2)) C 37 [] [.int x5.1] (ct_X8_gainOf L o u S v1 v2 x5 e5) kX8_gainOf kvX8_gainOf wl_X8_279 8 0 rfl rfl rfl rfl rfl rfl rfl (Nat.le_of_ble_eq_true rfl) ⟨Nat.le_of_ble_eq_true rfl, Nat.le_of_ble_eq_true rfl⟩ ⟨Nat.zero_le _, Nat.zero_le _⟩ dX8_gain_34 rfl ?_
      exact g_iret (st := []) C E dX8_gain_37 (by obtain rfl := Option.some.inj h; exact ⟨rfl, rfl⟩)
  unfold f_X8_gain at h
  refine g_aload_n C 1 0 dX8_gain_0 rfl rfl ?_
  refine g_iload_n C 2 1 dX8_gain_1 rfl rfl ?_
  refine bnd h (fun x1 e1 h => ?_)
  refine g_callVs (w' := (cells8 L o u S)) C 5 [] [.int x1] (ct_X8_isLearner L o u S v1 x1 e1) kX8_isLearner kvX8_isLearner wl_X8_114 8 0 rfl rfl rfl rfl rfl rfl rfl (Nat.le_of_ble_eq_true rfl) ⟨Nat.le_of_ble_eq_true rfl, Nat.le_of_ble_eq_true rfl⟩ ⟨Nat.zero_le _, Nat.zero_le _⟩ dX8_gain_2 rfl ?_
  refine g_if_eq C 21 8 dX8_gain_5 (by decide) rfl (fun c => ?_) (fun c => ?_)
  · have h := ifT c h
    refine g_aload_n C 22 0 dX8_gain_21 rfl rfl ?_
    refine g_iconst C 23 (-1 : Int32) dX8_gain_22 rfl rfl ?_
    refine bnd h (fun x2 e2 h => ?_)
    refine g_callVs (w' := (cells8 L o u x2.2)) C 26 [] [.int x2.1] (ct_X8_no L o u S (-1 : Int32) x2 e2) kX8_no kvX8_no wl_X8_77 8 0 rfl rfl rfl rfl rfl rfl rfl (Nat.le_of_ble_eq_true rfl) ⟨Nat.le_of_ble_eq_true rfl, Nat.le_of_ble_eq_true rfl⟩ ⟨Nat.zero_le _, Nat.zero_le _⟩ dX8_gain_23 rfl ?_
    exact g_iret (st := []) C E dX8_gain_26 (by obtain rfl := Option.some.inj h; exact ⟨rfl, rfl⟩)
  · have h := ifF c h
    refine g_iload_n C 9 2 dX8_gain_8 rfl rfl ?_
    refine g_iconst C 10 (-1 : Int32) dX8_gain_9 rfl rfl ?_
    refine g_icmp_eq C 27 13 dX8_gain_10 (by decide) rfl (fun c => ?_) (fun c => ?_)
    · have h := ifT c h
      exact J_27 _ _ _ h
    · have h := ifF c h
      refine g_aload_n C 14 0 dX8_gain_13 rfl rfl ?_
      refine g_iload_n C 15 2 dX8_gain_14 rfl rfl ?_
      refine bnd h (fun x3 e3 h => ?_)
      refine g_callVs (w' := (cells8 L o u S)) C 18 [] [.int x3] (ct_X8_isStreet L o u S v2 x3 e3) kX8_isStreet kvX8_isStreet wl_X8_117 8 0 rfl rfl rfl rfl rfl rfl rfl (Nat.le_of_ble_eq_true rfl) ⟨Nat.le_of_ble_eq_true rfl, Nat.le_of_ble_eq_true rfl⟩ ⟨Nat.zero_le _, Nat.zero_le _⟩ dX8_gain_15 rfl ?_
      refine g_if_ne C 27 21 dX8_gain_18 (by decide) rfl (fun c => ?_) (fun c => ?_)
      · have h := ifF c h
        exact J_27 _ _ _ h
      · have h := ifT c h
        refine g_aload_n C 22 0 dX8_gain_21 rfl rfl ?_
        refine g_iconst C 23 (-1 : Int32) dX8_gain_22 rfl rfl ?_
        refine bnd h (fun x4 e4 h => ?_)
        refine g_callVs (w' := (cells8 L o u x4.2)) C 26 [] [.int x4.1] (ct_X8_no L o u S (-1 : Int32) x4 e4) kX8_no kvX8_no wl_X8_77 8 0 rfl rfl rfl rfl rfl rfl rfl (Nat.le_of_ble_eq_true rfl) ⟨Nat.le_of_ble_eq_true rfl, Nat.le_of_ble_eq_true rfl⟩ ⟨Nat.zero_le _, Nat.zero_le _⟩ dX8_gain_23 rfl ?_
        exact g_iret (st := []) C E dX8_gain_26 (by obtain rfl := Option.some.inj h; exact ⟨rfl, rfl⟩)
set_option maxHeartbeats 4000000 in
set_option maxRecDepth 100000 in
theorem ct_X8_career (L : LL) (o : Nat) (u : Nat → Nat) (S : OS) (v1 : Int32) (v2 : Int32) (x : (Int32 × OS)) (h : f_X8_career S v1 v2 = some x) : Ct L yX8_career cX8_career 7 (some .int) (rmk 6 0 0 142) 0 0 [.ref o, .int v1, .int v2] (cells8 L o u S) (Pv (some (.int x.1)) (cells8 L o u x.2)) := by
  refine g_enter (lv := [(0, .ref o), (1, .int v1), (2, .int v2)]) kX8_career rfl rfl (Nat.le_of_ble_eq_true rfl) (fun Γ C E hNL => ?_)
  have J_113 : ∀ (v1 : Int32) (v4 : Int32) (v5 : Int32) (S : OS), j_X8_career_113   v1 v4 v5 S = some x → G L Γ 0 0 (cells8 L o u S) 113 [(0, .ref o), (1, .int v1), (4, .int v4), (5, .int v5)] [] := by
    intro v1 v4 v5 S h
    unfold j_X8_career_113 at h
    refine g_aload_n C 114 0 dX8_career_113 rfl rfl ?_
    refine g_get (v := .ref (u 6)) C 117 8 0 6 hin_8 rfl rfl (by decide) wf_X8_28 rfl dX8_career_114 rfl ?_
    refine g_iload_n C 118 1 dX8_career_117 rfl rfl ?_
    refine g_iload C 120 2 dX8_career_118 rfl rfl ?_
    refine grdE h (fun hb h => ?_)
    refine g_iast (f := (S.2 6)) (w' := (cells8 L o u (sa S 6 (upd (S.2 6) (v1).toNatClampNeg v4)))) C 121 7 rfl hb dX8_career_120 rfl rfl ?_
    refine g_iload C 123 3 dX8_career_121 rfl rfl ?_
    exact g_iret (st := []) C E dX8_career_123 (by obtain rfl := Option.some.inj h; exact ⟨rfl, rfl⟩)
  have J_44 : ∀ (n : Nat) (v1 : Int32) (v2 : Int32) (v4 : Int32) (v5 : Int32) (v6 : Int32) (S : OS), Lp3 (b_X8_career_44   v1 v2 v4) n v5 v6 S = some x → G L Γ 0 0 (cells8 L o u S) 44 [(0, .ref o), (1, .int v1), (2, .int v2), (4, .int v4), (5, .int v5), (6, .int v6)] [] := by
    intro n v1 v2 v4
    refine lp_ok3 (fun v5 v6 S => G L Γ 0 0 (cells8 L o u S) 44 [(0, .ref o), (1, .int v1), (2, .int v2), (4, .int v4), (5, .int v5), (6, .int v6)] []) (fun k_44 hk_44 => ?_) n
    have J_83 : ∀ (v6 : Int32) (s0 : Int32) (s1 : Int32) (S : OS), j_X8_career_83  k_44 v1 v2 v4 v6 s0 s1 S = some x → G L Γ 0 0 (cells8 L o u S) 83 [(0, .ref o), (1, .int v1), (2, .int v2), (4, .int v4), (6, .int v6)] [.int s0, .int s1] := by
      intro v6 s0 s1 S h
      unfold j_X8_career_83 at h
      refine g_iadd C 84 dX8_career_83 rfl ?_
      refine g_istore C 86 5 [(5, .int (s1 + s0)), (0, .ref o), (1, .int v1), (2, .int v2), (4, .int v4), (6, .int v6)] dX8_career_84 rfl 7 hNL (by decide) rfl ?_
      refine g_aload_n C 87 1 dX8_career_86 rfl rfl ?_
      refine g_get (v := .ref (u 6)) C 90 8 0 6 hin_8 rfl rfl (by decide) wf_X8_28 rfl dX8_career_87 rfl ?_
      refine g_iload_n C 91 2 dX8_career_90 rfl rfl ?_
      refine g_dup2 C 92 dX8_career_91 rfl rfl rfl ?_
      refine grdE h (fun hb h => ?_)
      refine g_iald (f := (S.2 6)) C 93 7 rfl hb dX8_career_92 rfl ?_
      refine g_aload_n C 94 1 dX8_career_93 rfl rfl ?_
      refine g_get (v := .ref (u 4)) C 97 8 0 4 hin_8 rfl rfl (by decide) wf_X8_22 rfl dX8_career_94 rfl ?_
      refine g_iload C 99 5 dX8_career_97 rfl rfl ?_
      refine g_aload_n C 100 1 dX8_career_99 rfl rfl ?_
      refine g_get (v := .int (S.1 8)) C 103 8 0 8 hin_8 rfl rfl (by decide) wf_X8_64 rfl dX8_career_100 rfl ?_
      refine grdN h (fun hne h => ?_)
      refine g_irem C 104 dX8_career_103 rfl hne ?_
      refine grdE h (fun hb h => ?_)
      refine g_iald (f := (S.2 4)) C 105 5 rfl hb dX8_career_104 rfl ?_
      refine g_ior C 106 dX8_career_105 rfl ?_
      refine grdE h (fun hb h => ?_)
      refine g_iast (f := (S.2 6)) (w' := (cells8 L o u (sa S 6 (upd (S.2 6) (v1).toNatClampNeg (((S.2 6) (v1).toNatClampNeg) ||| ((S.2 4) ((remI v6 (S.1 8))).toNatClampNeg)))))) C 107 7 rfl hb dX8_career_106 rfl rfl ?_
      refine g_iinc C 110 (1 : Int32) 5 [(6, .int (v6 + (1 : Int32))), (5, .int (s1 + s0)), (0, .ref o), (1, .int v1), (2, .int v2), (4, .int v4)] dX8_career_107 rfl rfl 7 hNL (by decide) rfl rfl ?_
      refine g_goto C 44 dX8_career_110 (by decide) ?_
      refine g_lv (lv' := [(0, .ref o), (1, .int v1), (2, .int v2), (4, .int v4), (5, .int (s1 + s0)), (6, .int (v6 + (1 : Int32)))]) [2, 3, 4, 5, 1, 0] rfl ?_
      exact hk_44 _ _ _ h
    intro v5 v6 S h
    unfold b_X8_career_44 at h
    refine g_iload C 46 5 dX8_career_44 rfl rfl ?_
    refine g_iload_n C 47 2 dX8_career_46 rfl rfl ?_
    refine g_icmp_ge C 113 50 dX8_career_47 (by decide) rfl (fun c => ?_) (fun c => ?_)
    · have h := ifT c h
      refine g_lv (lv' := [(0, .ref o), (1, .int v1), (4, .int v4), (5, .int v5)]) [0, 1, 3, 4] rfl ?_
      exact J_113 _ _ _ _ h
    · have h := ifF c h
      refine g_aload_n C 51 0 dX8_career_50 rfl rfl ?_
      refine g_get (v := .int (S.1 8)) C 54 8 0 8 hin_8 rfl rfl (by decide) wf_X8_64 rfl dX8_career_51 rfl ?_
      refine g_if_le C 113 57 dX8_career_54 (by decide) rfl (fun c => ?_) (fun c => ?_)
      · have h := ifT c h
        refine g_lv (lv' := [(0, .ref o), (1, .int v1), (4, .int v4), (5, .int v5)]) [0, 1, 3, 4] rfl ?_
        exact J_113 _ _ _ _ h
      · have h := ifF c h
        refine g_iload C 59 4 dX8_career_57 rfl rfl ?_
        refine g_aload_n C 60 0 dX8_career_59 rfl rfl ?_
        refine g_iload_n C 61 1 dX8_career_60 rfl rfl ?_
        refine g_iload C 63 5 dX8_career_61 rfl rfl ?_
        refine g_aload_n C 64 0 dX8_career_63 rfl rfl ?_
        refine g_get (v := .int (S.1 8)) C 67 8 0 8 hin_8 rfl rfl (by decide) wf_X8_64 rfl dX8_career_64 rfl ?_
        refine grdN h (fun hne h => ?_)
        refine g_irem C 68 dX8_career_67 rfl hne ?_
        refine g_aload_n C 69 0 dX8_career_68 rfl rfl ?_
        refine g_get (v := .int (S.1 10)) C 72 8 0 10 hin_8 rfl rfl (by decide) wf_X8_52 rfl dX8_career_69 rfl ?_
        refine bnd h (fun x4 e4 h => ?_)
        refine g_callVs (w' := (cells8 L o u S)) C 75 [.int v5] [.int x4, .int v5] (ct_X8_passesWay L o u S v1 (remI v6 (S.1 8)) (S.1 10) x4 e4) kX8_passesWay kvX8_passesWay wl_X8_185 8 0 rfl rfl rfl rfl rfl rfl rfl (Nat.le_of_ble_eq_true rfl) ⟨Nat.le_of_ble_eq_true rfl, Nat.le_of_ble_eq_true rfl⟩ ⟨Nat.zero_le _, Nat.zero_le _⟩ dX8_career_72 rfl ?_
        refine g_if_eq C 82 78 dX8_career_75 (by decide) rfl (fun c => ?_) (fun c => ?_)
        · have h := ifT c h
          refine g_iconst C 83 (0 : Int32) dX8_career_82 rfl rfl ?_
          refine g_lv (lv' := [(0, .ref o), (1, .int v1), (2, .int v2), (4, .int v4), (6, .int v6)]) [0, 1, 2, 3, 5] rfl ?_
          exact J_83 _ _ _ _ h
        · have h := ifF c h
          refine g_iconst C 79 (1 : Int32) dX8_career_78 rfl rfl ?_
          refine g_goto C 83 dX8_career_79 (by decide) ?_
          refine g_lv (lv' := [(0, .ref o), (1, .int v1), (2, .int v2), (4, .int v4), (6, .int v6)]) [0, 1, 2, 3, 5] rfl ?_
          exact J_83 _ _ _ _ h
  have J_19 : ∀ (v1 : Int32) (v2 : Int32) (s0 : Int32) (S : OS), j_X8_career_19   v1 v2 s0 S = some x → G L Γ 0 0 (cells8 L o u S) 19 [(0, .ref o), (1, .int v1), (2, .int v2)] [.int s0] := by
    intro v1 v2 s0 S h
    unfold j_X8_career_19 at h
    refine g_istore_n C 20 3 [(3, .int s0), (0, .ref o), (1, .int v1), (2, .int v2)] dX8_career_19 rfl rfl 7 hNL (by decide) rfl ?_
    refine g_iload_n C 21 0 dX8_career_20 rfl rfl ?_
    refine g_if_eq C 30 24 dX8_career_21 (by decide) rfl (fun c => ?_) (fun c => ?_)
    · have h := ifT c h
      refine g_aload_n C 31 1 dX8_career_30 rfl rfl ?_
      refine g_get (v := .ref (u 6)) C 34 8 0 6 hin_8 rfl rfl (by decide) wf_X8_28 rfl dX8_career_31 rfl ?_
      refine g_iload_n C 35 2 dX8_career_34 rfl rfl ?_
      refine grdE h (fun hb h => ?_)
      refine g_iald (f := (S.2 6)) C 36 7 rfl hb dX8_career_35 rfl ?_
      refine g_istore C 38 4 [(4, .int ((S.2 6) (v1).toNatClampNeg)), (3, .int s0), (0, .ref o), (1, .int v1), (2, .int v2)] dX8_career_36 rfl 7 hNL (by decide) rfl ?_
      refine g_iconst C 39 (0 : Int32) dX8_career_38 rfl rfl ?_
      refine g_istore C 41 5 [(5, .int (0 : Int32)), (4, .int ((S.2 6) (v1).toNatClampNeg)), (3, .int s0), (0, .ref o), (1, .int v1), (2, .int v2)] dX8_career_39 rfl 7 hNL (by decide) rfl ?_
      refine g_iconst C 42 (0 : Int32) dX8_career_41 rfl rfl ?_
      refine g_istore C 44 6 [(6, .int (0 : Int32)), (5, .int (0 : Int32)), (4, .int ((S.2 6) (v1).toNatClampNeg)), (3, .int s0), (0, .ref o), (1, .int v1), (2, .int v2)] dX8_career_42 rfl 7 hNL (by decide) rfl ?_
      refine g_lv (lv' := [(0, .ref o), (1, .int v1), (2, .int v2), (4, .int ((S.2 6) (v1).toNatClampNeg)), (5, .int (0 : Int32)), (6, .int (0 : Int32))]) [4, 5, 6, 2, 1, 0] rfl ?_
      exact J_44 _ _ _ _ _ _ _ h
    · have h := ifF c h
      refine g_aload_n C 25 1 dX8_career_24 rfl rfl ?_
      refine g_iload_n C 26 0 dX8_career_25 rfl rfl ?_
      refine bnd h (fun x3 e3 h => ?_)
      refine g_callVs (w' := (cells8 L o u x3.2)) C 29 [] [.int x3.1] (ct_X8_no L o u S s0 x3 e3) kX8_no kvX8_no wl_X8_77 8 0 rfl rfl rfl rfl rfl rfl rfl (Nat.le_of_ble_eq_true rfl) ⟨Nat.le_of_ble_eq_true rfl, Nat.le_of_ble_eq_true rfl⟩ ⟨Nat.zero_le _, Nat.zero_le _⟩ dX8_career_26 rfl ?_
      exact g_iret (st := []) C E dX8_career_29 (by obtain rfl := Option.some.inj h; exact ⟨rfl, rfl⟩)
  unfold f_X8_career at h
  refine g_aload_n C 1 0 dX8_career_0 rfl rfl ?_
  refine g_iload_n C 2 1 dX8_career_1 rfl rfl ?_
  refine bnd h (fun x1 e1 h => ?_)
  refine g_callVs (w' := (cells8 L o u S)) C 5 [] [.int x1] (ct_X8_isLearner L o u S v1 x1 e1) kX8_isLearner kvX8_isLearner wl_X8_114 8 0 rfl rfl rfl rfl rfl rfl rfl (Nat.le_of_ble_eq_true rfl) ⟨Nat.le_of_ble_eq_true rfl, Nat.le_of_ble_eq_true rfl⟩ ⟨Nat.zero_le _, Nat.zero_le _⟩ dX8_career_2 rfl ?_
  refine g_if_ne C 12 8 dX8_career_5 (by decide) rfl (fun c => ?_) (fun c => ?_)
  · have h := ifF c h
    refine g_iload_n C 13 2 dX8_career_12 rfl rfl ?_
    refine g_iconst C 14 (0 : Int32) dX8_career_13 rfl rfl ?_
    refine g_bipush C 16 (60 : Int32) dX8_career_14 rfl rfl ?_
    refine bnd h (fun x2 e2 h => ?_)
    refine g_callSr C 19 [] [.int x2] (ct_X8_bound L v2 (0 : Int32) (60 : Int32) x2 e2) kX8_bound kvX8_bound wl_X8_70 [] rfl rfl rfl rfl rfl (Nat.le_of_ble_eq_true rfl) ⟨Nat.le_of_ble_eq_true rfl, Nat.le_of_ble_eq_true rfl⟩ ⟨Nat.zero_le _, Nat.zero_le _⟩ dX8_career_16 rfl ?_
    exact J_19 _ _ _ _ h
  · have h := ifT c h
    refine g_iconst C 9 (-1 : Int32) dX8_career_8 rfl rfl ?_
    refine g_goto C 19 dX8_career_9 (by decide) ?_
    exact J_19 _ _ _ _ h
set_option maxHeartbeats 4000000 in
set_option maxRecDepth 100000 in
theorem ct_X8_toughest (L : LL) (o : Nat) (u : Nat → Nat) (S : OS) (v1 : Int32) (x : (Int32 × OS)) (h : f_X8_toughest S v1 = some x) : Ct L yX8_toughest cX8_toughest 4 (some .int) (rmk 3 0 0 70) 0 0 [.ref o, .int v1] (cells8 L o u S) (Pv (some (.int x.1)) (cells8 L o u x.2)) := by
  refine g_enter (lv := [(0, .ref o), (1, .int v1)]) kX8_toughest rfl rfl (Nat.le_of_ble_eq_true rfl) (fun Γ C E hNL => ?_)
  have J_18 : ∀ (n : Nat) (v1 : Int32) (S : OS) (v2 : Int32) (v3 : Int32), Lp2 (b_X8_toughest_18   v1 S) n v2 v3 = some x → G L Γ 0 0 (cells8 L o u S) 18 [(0, .ref o), (1, .int v1), (2, .int v2), (3, .int v3)] [] := by
    intro n v1 S
    refine lp_ok2 (fun v2 v3 => G L Γ 0 0 (cells8 L o u S) 18 [(0, .ref o), (1, .int v1), (2, .int v2), (3, .int v3)] []) (fun k_18 hk_18 => ?_) n
    have J_54 : ∀ (v3 : Int32) (s0 : Int32), j_X8_toughest_54  k_18 v1 v3 s0 S = some x → G L Γ 0 0 (cells8 L o u S) 54 [(0, .ref o), (1, .int v1), (3, .int v3)] [.int s0] := by
      intro v3 s0 h
      unfold j_X8_toughest_54 at h
      refine g_istore_n C 55 2 [(2, .int s0), (0, .ref o), (1, .int v1), (3, .int v3)] dX8_toughest_54 rfl rfl 4 hNL (by decide) rfl ?_
      refine g_iinc C 58 (1 : Int32) 3 [(3, .int (v3 + (1 : Int32))), (2, .int s0), (0, .ref o), (1, .int v1)] dX8_toughest_55 rfl rfl 4 hNL (by decide) rfl rfl ?_
      refine g_goto C 18 dX8_toughest_58 (by decide) ?_
      refine g_lv (lv' := [(0, .ref o), (1, .int v1), (2, .int s0), (3, .int (v3 + (1 : Int32)))]) [2, 3, 1, 0] rfl ?_
      exact hk_18 _ _ h
    intro v2 v3 h
    unfold b_X8_toughest_18 at h
    refine g_iload_n C 19 3 dX8_toughest_18 rfl rfl ?_
    refine g_bipush C 21 (24 : Int32) dX8_toughest_19 rfl rfl ?_
    refine g_icmp_ge C 61 24 dX8_toughest_21 (by decide) rfl (fun c => ?_) (fun c => ?_)
    · have h := ifT c h
      refine g_iload_n C 62 2 dX8_toughest_61 rfl rfl ?_
      exact g_iret (st := []) C E dX8_toughest_62 (by obtain rfl := Option.some.inj h; exact ⟨rfl, rfl⟩)
    · have h := ifF c h
      refine g_aload_n C 25 0 dX8_toughest_24 rfl rfl ?_
      refine g_aload_n C 26 0 dX8_toughest_25 rfl rfl ?_
      refine g_get (v := .ref (u 4)) C 29 8 0 4 hin_8 rfl rfl (by decide) wf_X8_22 rfl dX8_toughest_26 rfl ?_
      refine g_iload_n C 30 1 dX8_toughest_29 rfl rfl ?_
      refine grdE h (fun hb h => ?_)
      refine g_iald (f := (S.2 4)) C 31 5 rfl hb dX8_toughest_30 rfl ?_
      refine g_iload_n C 32 3 dX8_toughest_31 rfl rfl ?_
      refine bnd h (fun x3 e3 h => ?_)
      refine g_callVs (w' := (cells8 L o u S)) C 35 [] [.int x3] (ct_X8_hardOn L o u S ((S.2 4) (v1).toNatClampNeg) v3 x3 e3) kX8_hardOn kvX8_hardOn wl_X8_197 8 0 rfl rfl rfl rfl rfl rfl rfl (Nat.le_of_ble_eq_true rfl) ⟨Nat.le_of_ble_eq_true rfl, Nat.le_of_ble_eq_true rfl⟩ ⟨Nat.zero_le _, Nat.zero_le _⟩ dX8_toughest_32 rfl ?_
      refine g_aload_n C 36 0 dX8_toughest_35 rfl rfl ?_
      refine g_aload_n C 37 0 dX8_toughest_36 rfl rfl ?_
      refine g_get (v := .ref (u 4)) C 40 8 0 4 hin_8 rfl rfl (by decide) wf_X8_22 rfl dX8_toughest_37 rfl ?_
      refine g_iload_n C 41 1 dX8_toughest_40 rfl rfl ?_
      refine grdE h (fun hb h => ?_)
      refine g_iald (f := (S.2 4)) C 42 5 rfl hb dX8_toughest_41 rfl ?_
      refine g_iload_n C 43 2 dX8_toughest_42 rfl rfl ?_
      refine bnd h (fun x4 e4 h => ?_)
      refine g_callVs (w' := (cells8 L o u S)) C 46 [.int x3] [.int x4, .int x3] (ct_X8_hardOn L o u S ((S.2 4) (v1).toNatClampNeg) v2 x4 e4) kX8_hardOn kvX8_hardOn wl_X8_197 8 0 rfl rfl rfl rfl rfl rfl rfl (Nat.le_of_ble_eq_true rfl) ⟨Nat.le_of_ble_eq_true rfl, Nat.le_of_ble_eq_true rfl⟩ ⟨Nat.zero_le _, Nat.zero_le _⟩ dX8_toughest_43 rfl ?_
      refine g_icmp_le C 53 49 dX8_toughest_46 (by decide) rfl (fun c => ?_) (fun c => ?_)
      · have h := ifT c h
        refine g_iload_n C 54 2 dX8_toughest_53 rfl rfl ?_
        refine g_lv (lv' := [(0, .ref o), (1, .int v1), (3, .int v3)]) [0, 1, 3] rfl ?_
        exact J_54 _ _ h
      · have h := ifF c h
        refine g_iload_n C 50 3 dX8_toughest_49 rfl rfl ?_
        refine g_goto C 54 dX8_toughest_50 (by decide) ?_
        refine g_lv (lv' := [(0, .ref o), (1, .int v1), (3, .int v3)]) [0, 1, 3] rfl ?_
        exact J_54 _ _ h
  unfold f_X8_toughest at h
  refine g_aload_n C 1 0 dX8_toughest_0 rfl rfl ?_
  refine g_iload_n C 2 1 dX8_toughest_1 rfl rfl ?_
  refine bnd h (fun x1 e1 h => ?_)
  refine g_callVs (w' := (cells8 L o u S)) C 5 [] [.int x1] (ct_X8_isWay L o u S v1 x1 e1) kX8_isWay kvX8_isWay wl_X8_120 8 0 rfl rfl rfl rfl rfl rfl rfl (Nat.le_of_ble_eq_true rfl) ⟨Nat.le_of_ble_eq_true rfl, Nat.le_of_ble_eq_true rfl⟩ ⟨Nat.zero_le _, Nat.zero_le _⟩ dX8_toughest_2 rfl ?_
  refine g_if_ne C 14 8 dX8_toughest_5 (by decide) rfl (fun c => ?_) (fun c => ?_)
  · have h := ifF c h
    refine g_iconst C 15 (0 : Int32) dX8_toughest_14 rfl rfl ?_
    refine g_istore_n C 16 2 [(2, .int (0 : Int32)), (0, .ref o), (1, .int v1)] dX8_toughest_15 rfl rfl 4 hNL (by decide) rfl ?_
    refine g_iconst C 17 (1 : Int32) dX8_toughest_16 rfl rfl ?_
    refine g_istore_n C 18 3 [(3, .int (1 : Int32)), (2, .int (0 : Int32)), (0, .ref o), (1, .int v1)] dX8_toughest_17 rfl rfl 4 hNL (by decide) rfl ?_
    refine g_lv (lv' := [(0, .ref o), (1, .int v1), (2, .int (0 : Int32)), (3, .int (1 : Int32))]) [2, 3, 1, 0] rfl ?_
    exact J_18 _ _ _ _ _ h
  · have h := ifT c h
    refine g_aload_n C 9 0 dX8_toughest_8 rfl rfl ?_
    refine g_iconst C 10 (-1 : Int32) dX8_toughest_9 rfl rfl ?_
    refine bnd h (fun x2 e2 h => ?_)
    refine g_callVs (w' := (cells8 L o u x2.2)) C 13 [] [.int x2.1] (ct_X8_no L o u S (-1 : Int32) x2 e2) kX8_no kvX8_no wl_X8_77 8 0 rfl rfl rfl rfl rfl rfl rfl (Nat.le_of_ble_eq_true rfl) ⟨Nat.le_of_ble_eq_true rfl, Nat.le_of_ble_eq_true rfl⟩ ⟨Nat.zero_le _, Nat.zero_le _⟩ dX8_toughest_10 rfl ?_
    exact g_iret (st := []) C E dX8_toughest_13 (by obtain rfl := Option.some.inj h; exact ⟨rfl, rfl⟩)
set_option maxHeartbeats 4000000 in
set_option maxRecDepth 100000 in
theorem ct_X8_equal (L : LL) (o : Nat) (u : Nat → Nat) (S : OS) (x : Int32) (h : f_X8_equal S = some x) : Ct L yX8_equal cX8_equal 4 (some .int) (rmk 7 0 0 166) 0 0 [.ref o] (cells8 L o u S) (Pv (some (.int x)) (cells8 L o u S)) := by
  refine g_enter (lv := [(0, .ref o)]) kX8_equal rfl rfl (Nat.le_of_ble_eq_true rfl) (fun Γ C E hNL => ?_)
  have J_4 : ∀ (n : Nat)  (v1 : Int32) (v2 : Int32), Lp2 (b_X8_equal_4 S  ) n v1 v2 = some x → G L Γ 0 0 (cells8 L o u S) 4 [(0, .ref o), (1, .int v1), (2, .int v2)] [] := by
    intro n 
    refine lp_ok2 (fun v1 v2 => G L Γ 0 0 (cells8 L o u S) 4 [(0, .ref o), (1, .int v1), (2, .int v2)] []) (fun k_4 hk_4 => ?_) n
    have J_59 : ∀ (v1 : Int32) (v2 : Int32), j_X8_equal_59 S k_4 v1 v2 = some x → G L Γ 0 0 (cells8 L o u S) 59 [(0, .ref o), (1, .int v1), (2, .int v2)] [] := by
      intro v1 v2 h
      unfold j_X8_equal_59 at h
      refine g_iinc C 62 (1 : Int32) 2 [(2, .int (v2 + (1 : Int32))), (0, .ref o), (1, .int v1)] dX8_equal_59 rfl rfl 4 hNL (by decide) rfl rfl ?_
      refine g_goto C 4 dX8_equal_62 (by decide) ?_
      refine g_lv (lv' := [(0, .ref o), (1, .int v1), (2, .int (v2 + (1 : Int32)))]) [1, 2, 0] rfl ?_
      exact hk_4 _ _ h
    have J_16 : ∀ (n : Nat) (v2 : Int32) (v1 : Int32) (v3 : Int32), Lp2 (b_X8_equal_16 S k_4 v2) n v1 v3 = some x → G L Γ 0 0 (cells8 L o u S) 16 [(0, .ref o), (1, .int v1), (2, .int v2), (3, .int v3)] [] := by
      intro n v2
      refine lp_ok2 (fun v1 v3 => G L Γ 0 0 (cells8 L o u S) 16 [(0, .ref o), (1, .int v1), (2, .int v2), (3, .int v3)] []) (fun k_16 hk_16 => ?_) n
      have J_51 : ∀ (v3 : Int32) (s0 : Int32) (s1 : Int32), j_X8_equal_51 S k_4 k_16 v2 v3 s0 s1 = some x → G L Γ 0 0 (cells8 L o u S) 51 [(0, .ref o), (2, .int v2), (3, .int v3)] [.int s0, .int s1] := by
        intro v3 s0 s1 h
        unfold j_X8_equal_51 at h
        refine g_iadd C 52 dX8_equal_51 rfl ?_
        refine g_istore_n C 53 1 [(1, .int (s1 + s0)), (0, .ref o), (2, .int v2), (3, .int v3)] dX8_equal_52 rfl rfl 4 hNL (by decide) rfl ?_
        refine g_iinc C 56 (1 : Int32) 3 [(3, .int (v3 + (1 : Int32))), (1, .int (s1 + s0)), (0, .ref o), (2, .int v2)] dX8_equal_53 rfl rfl 4 hNL (by decide) rfl rfl ?_
        refine g_goto C 16 dX8_equal_56 (by decide) ?_
        refine g_lv (lv' := [(0, .ref o), (1, .int (s1 + s0)), (2, .int v2), (3, .int (v3 + (1 : Int32)))]) [2, 1, 3, 0] rfl ?_
        exact hk_16 _ _ h
      intro v1 v3 h
      unfold b_X8_equal_16 at h
      refine g_iload_n C 17 3 dX8_equal_16 rfl rfl ?_
      refine g_aload_n C 18 0 dX8_equal_17 rfl rfl ?_
      refine g_get (v := .int (S.1 9)) C 21 8 0 9 hin_8 rfl rfl (by decide) wf_X8_67 rfl dX8_equal_18 rfl ?_
      refine g_icmp_ge C 59 24 dX8_equal_21 (by decide) rfl (fun c => ?_) (fun c => ?_)
      · have h := ifT c h
        refine g_lv (lv' := [(0, .ref o), (1, .int v1), (2, .int v2)]) [0, 1, 2] rfl ?_
        exact J_59 _ _ h
      · have h := ifF c h
        refine g_iload_n C 25 1 dX8_equal_24 rfl rfl ?_
        refine g_aload_n C 26 0 dX8_equal_25 rfl rfl ?_
        refine g_iload_n C 27 2 dX8_equal_26 rfl rfl ?_
        refine g_aload_n C 28 0 dX8_equal_27 rfl rfl ?_
        refine g_get (v := .int (S.1 10)) C 31 8 0 10 hin_8 rfl rfl (by decide) wf_X8_52 rfl dX8_equal_28 rfl ?_
        refine bnd h (fun x1 e1 h => ?_)
        refine g_callVs (w' := (cells8 L o u S)) C 34 [.int v1] [.int x1, .int v1] (ct_X8_passedWays L o u S v2 (S.1 10) x1 e1) kX8_passedWays kvX8_passedWays wl_X8_209 8 0 rfl rfl rfl rfl rfl rfl rfl (Nat.le_of_ble_eq_true rfl) ⟨Nat.le_of_ble_eq_true rfl, Nat.le_of_ble_eq_true rfl⟩ ⟨Nat.zero_le _, Nat.zero_le _⟩ dX8_equal_31 rfl ?_
        refine g_aload_n C 35 0 dX8_equal_34 rfl rfl ?_
        refine g_iload_n C 36 3 dX8_equal_35 rfl rfl ?_
        refine g_aload_n C 37 0 dX8_equal_36 rfl rfl ?_
        refine g_get (v := .int (S.1 10)) C 40 8 0 10 hin_8 rfl rfl (by decide) wf_X8_52 rfl dX8_equal_37 rfl ?_
        refine bnd h (fun x2 e2 h => ?_)
        refine g_callVs (w' := (cells8 L o u S)) C 43 [.int x1, .int v1] [.int x2, .int x1, .int v1] (ct_X8_passedWays L o u S v3 (S.1 10) x2 e2) kX8_passedWays kvX8_passedWays wl_X8_209 8 0 rfl rfl rfl rfl rfl rfl rfl (Nat.le_of_ble_eq_true rfl) ⟨Nat.le_of_ble_eq_true rfl, Nat.le_of_ble_eq_true rfl⟩ ⟨Nat.zero_le _, Nat.zero_le _⟩ dX8_equal_40 rfl ?_
        refine g_icmp_ne C 50 46 dX8_equal_43 (by decide) rfl (fun c => ?_) (fun c => ?_)
        · have h := ifF c h
          refine g_iconst C 51 (0 : Int32) dX8_equal_50 rfl rfl ?_
          refine g_lv (lv' := [(0, .ref o), (2, .int v2), (3, .int v3)]) [0, 2, 3] rfl ?_
          exact J_51 _ _ _ h
        · have h := ifT c h
          refine g_iconst C 47 (1 : Int32) dX8_equal_46 rfl rfl ?_
          refine g_goto C 51 dX8_equal_47 (by decide) ?_
          refine g_lv (lv' := [(0, .ref o), (2, .int v2), (3, .int v3)]) [0, 2, 3] rfl ?_
          exact J_51 _ _ _ h
    intro v1 v2 h
    unfold b_X8_equal_4 at h
    refine g_iload_n C 5 2 dX8_equal_4 rfl rfl ?_
    refine g_aload_n C 6 0 dX8_equal_5 rfl rfl ?_
    refine g_get (v := .int (S.1 9)) C 9 8 0 9 hin_8 rfl rfl (by decide) wf_X8_67 rfl dX8_equal_6 rfl ?_
    refine g_icmp_ge C 65 12 dX8_equal_9 (by decide) rfl (fun c => ?_) (fun c => ?_)
    · have h := ifT c h
      refine g_iload_n C 66 1 dX8_equal_65 rfl rfl ?_
      exact g_iret (st := []) C E dX8_equal_66 (by obtain rfl := Option.some.inj h; exact ⟨rfl, rfl⟩)
    · have h := ifF c h
      refine g_iload_n C 13 2 dX8_equal_12 rfl rfl ?_
      refine g_iconst C 14 (1 : Int32) dX8_equal_13 rfl rfl ?_
      refine g_iadd C 15 dX8_equal_14 rfl ?_
      refine g_istore_n C 16 3 [(3, .int (v2 + (1 : Int32))), (0, .ref o), (1, .int v1), (2, .int v2)] dX8_equal_15 rfl rfl 4 hNL (by decide) rfl ?_
      refine g_lv (lv' := [(0, .ref o), (1, .int v1), (2, .int v2), (3, .int (v2 + (1 : Int32)))]) [1, 2, 3, 0] rfl ?_
      exact J_16 _ _ _ _ h
  unfold f_X8_equal at h
  refine g_iconst C 1 (0 : Int32) dX8_equal_0 rfl rfl ?_
  refine g_istore_n C 2 1 [(1, .int (0 : Int32)), (0, .ref o)] dX8_equal_1 rfl rfl 4 hNL (by decide) rfl ?_
  refine g_iconst C 3 (0 : Int32) dX8_equal_2 rfl rfl ?_
  refine g_istore_n C 4 2 [(2, .int (0 : Int32)), (1, .int (0 : Int32)), (0, .ref o)] dX8_equal_3 rfl rfl 4 hNL (by decide) rfl ?_
  refine g_lv (lv' := [(0, .ref o), (1, .int (0 : Int32)), (2, .int (0 : Int32))]) [2, 1, 0] rfl ?_
  exact J_4 _ _ _ h
set_option maxHeartbeats 4000000 in
set_option maxRecDepth 100000 in
theorem ct_X8_longest (L : LL) (o : Nat) (u : Nat → Nat) (S : OS) (v1 : Int32) (x : (Int32 × OS)) (h : f_X8_longest S v1 = some x) : Ct L yX8_longest cX8_longest 4 (some .int) (rmk 2 0 0 44) 0 0 [.ref o, .int v1] (cells8 L o u S) (Pv (some (.int x.1)) (cells8 L o u x.2)) := by
  refine g_enter (lv := [(0, .ref o), (1, .int v1)]) kX8_longest rfl rfl (Nat.le_of_ble_eq_true rfl) (fun Γ C E hNL => ?_)
  have J_68 : ∀ (v1 : Int32) (v2 : Int32) (S : OS), j_X8_longest_68   v1 v2 S = some x → G L Γ 0 0 (cells8 L o u S) 68 [(0, .ref o), (1, .int v1), (2, .int v2)] [] := by
    intro v1 v2 S h
    unfold j_X8_longest_68 at h
    refine g_iload_n C 69 1 dX8_longest_68 rfl rfl ?_
    refine g_if_eq C 76 72 dX8_longest_69 (by decide) rfl (fun c => ?_) (fun c => ?_)
    · have h := ifT c h
      refine g_iload_n C 77 2 dX8_longest_76 rfl rfl ?_
      refine g_goto C 90 dX8_longest_77 (by decide) ?_
      exact g_iret (st := []) C E dX8_longest_90 (by obtain rfl := Option.some.inj h; exact ⟨rfl, rfl⟩)
    · have h := ifF c h
      refine g_iload_n C 73 2 dX8_longest_72 rfl rfl ?_
      refine g_if_ge C 80 76 dX8_longest_73 (by decide) rfl (fun c => ?_) (fun c => ?_)
      · have h := ifT c h
        refine g_aload_n C 81 0 dX8_longest_80 rfl rfl ?_
        refine g_aload_n C 82 0 dX8_longest_81 rfl rfl ?_
        refine g_get (v := .ref (u 4)) C 85 8 0 4 hin_8 rfl rfl (by decide) wf_X8_22 rfl dX8_longest_82 rfl ?_
        refine g_iload_n C 86 2 dX8_longest_85 rfl rfl ?_
        refine grdE h (fun hb h => ?_)
        refine g_iald (f := (S.2 4)) C 87 5 rfl hb dX8_longest_86 rfl ?_
        refine bnd h (fun x5 e5 h => ?_)
        refine g_callVs (w' := (cells8 L o u S)) C 90 [] [.int x5] (ct_X8_minutesOf L o u S ((S.2 4) (v2).toNatClampNeg) x5 e5) kX8_minutesOf kvX8_minutesOf wl_X8_194 8 0 rfl rfl rfl rfl rfl rfl rfl (Nat.le_of_ble_eq_true rfl) ⟨Nat.le_of_ble_eq_true rfl, Nat.le_of_ble_eq_true rfl⟩ ⟨Nat.zero_le _, Nat.zero_le _⟩ dX8_longest_87 rfl ?_
        exact g_iret (st := []) C E dX8_longest_90 (by obtain rfl := Option.some.inj h; exact ⟨rfl, rfl⟩)
      · have h := ifF c h
        refine g_iload_n C 77 2 dX8_longest_76 rfl rfl ?_
        refine g_goto C 90 dX8_longest_77 (by decide) ?_
        exact g_iret (st := []) C E dX8_longest_90 (by obtain rfl := Option.some.inj h; exact ⟨rfl, rfl⟩)
  have J_21 : ∀ (n : Nat) (v1 : Int32) (S : OS) (v2 : Int32) (v3 : Int32), Lp2 (b_X8_longest_21   v1 S) n v2 v3 = some x → G L Γ 0 0 (cells8 L o u S) 21 [(0, .ref o), (1, .int v1), (2, .int v2), (3, .int v3)] [] := by
    intro n v1 S
    refine lp_ok2 (fun v2 v3 => G L Γ 0 0 (cells8 L o u S) 21 [(0, .ref o), (1, .int v1), (2, .int v2), (3, .int v3)] []) (fun k_21 hk_21 => ?_) n
    have J_61 : ∀ (v3 : Int32) (s0 : Int32), j_X8_longest_61  k_21 v1 v3 s0 S = some x → G L Γ 0 0 (cells8 L o u S) 61 [(0, .ref o), (1, .int v1), (3, .int v3)] [.int s0] := by
      intro v3 s0 h
      unfold j_X8_longest_61 at h
      refine g_istore_n C 62 2 [(2, .int s0), (0, .ref o), (1, .int v1), (3, .int v3)] dX8_longest_61 rfl rfl 4 hNL (by decide) rfl ?_
      refine g_iinc C 65 (1 : Int32) 3 [(3, .int (v3 + (1 : Int32))), (2, .int s0), (0, .ref o), (1, .int v1)] dX8_longest_62 rfl rfl 4 hNL (by decide) rfl rfl ?_
      refine g_goto C 21 dX8_longest_65 (by decide) ?_
      refine g_lv (lv' := [(0, .ref o), (1, .int v1), (2, .int s0), (3, .int (v3 + (1 : Int32)))]) [2, 3, 1, 0] rfl ?_
      exact hk_21 _ _ h
    have J_56 : ∀ (v3 : Int32), j_X8_longest_56  k_21 v1 v3 S = some x → G L Γ 0 0 (cells8 L o u S) 56 [(0, .ref o), (1, .int v1), (3, .int v3)] [] := by
      intro v3 h
      unfold j_X8_longest_56 at h
      refine g_iload_n C 57 2 dX8_longest_56 rfl rfl ?_
      refine g_goto C 61 dX8_longest_57 (by decide) ?_
      exact J_61 _ _ h
    intro v2 v3 h
    unfold b_X8_longest_21 at h
    refine g_iload_n C 22 3 dX8_longest_21 rfl rfl ?_
    refine g_aload_n C 23 0 dX8_longest_22 rfl rfl ?_
    refine g_get (v := .int (S.1 8)) C 26 8 0 8 hin_8 rfl rfl (by decide) wf_X8_64 rfl dX8_longest_23 rfl ?_
    refine g_icmp_ge C 68 29 dX8_longest_26 (by decide) rfl (fun c => ?_) (fun c => ?_)
    · have h := ifT c h
      refine g_lv (lv' := [(0, .ref o), (1, .int v1), (2, .int v2)]) [0, 1, 2] rfl ?_
      exact J_68 _ _ _ h
    · have h := ifF c h
      refine g_iload_n C 30 2 dX8_longest_29 rfl rfl ?_
      refine g_if_lt C 56 33 dX8_longest_30 (by decide) rfl (fun c => ?_) (fun c => ?_)
      · have h := ifT c h
        refine g_lv (lv' := [(0, .ref o), (1, .int v1), (3, .int v3)]) [0, 1, 3] rfl ?_
        exact J_56 _ h
      · have h := ifF c h
        refine g_aload_n C 34 0 dX8_longest_33 rfl rfl ?_
        refine g_aload_n C 35 0 dX8_longest_34 rfl rfl ?_
        refine g_get (v := .ref (u 4)) C 38 8 0 4 hin_8 rfl rfl (by decide) wf_X8_22 rfl dX8_longest_35 rfl ?_
        refine g_iload_n C 39 3 dX8_longest_38 rfl rfl ?_
        refine grdE h (fun hb h => ?_)
        refine g_iald (f := (S.2 4)) C 40 5 rfl hb dX8_longest_39 rfl ?_
        refine bnd h (fun x3 e3 h => ?_)
        refine g_callVs (w' := (cells8 L o u S)) C 43 [] [.int x3] (ct_X8_minutesOf L o u S ((S.2 4) (v3).toNatClampNeg) x3 e3) kX8_minutesOf kvX8_minutesOf wl_X8_194 8 0 rfl rfl rfl rfl rfl rfl rfl (Nat.le_of_ble_eq_true rfl) ⟨Nat.le_of_ble_eq_true rfl, Nat.le_of_ble_eq_true rfl⟩ ⟨Nat.zero_le _, Nat.zero_le _⟩ dX8_longest_40 rfl ?_
        refine g_aload_n C 44 0 dX8_longest_43 rfl rfl ?_
        refine g_aload_n C 45 0 dX8_longest_44 rfl rfl ?_
        refine g_get (v := .ref (u 4)) C 48 8 0 4 hin_8 rfl rfl (by decide) wf_X8_22 rfl dX8_longest_45 rfl ?_
        refine g_iload_n C 49 2 dX8_longest_48 rfl rfl ?_
        refine grdE h (fun hb h => ?_)
        refine g_iald (f := (S.2 4)) C 50 5 rfl hb dX8_longest_49 rfl ?_
        refine bnd h (fun x4 e4 h => ?_)
        refine g_callVs (w' := (cells8 L o u S)) C 53 [.int x3] [.int x4, .int x3] (ct_X8_minutesOf L o u S ((S.2 4) (v2).toNatClampNeg) x4 e4) kX8_minutesOf kvX8_minutesOf wl_X8_194 8 0 rfl rfl rfl rfl rfl rfl rfl (Nat.le_of_ble_eq_true rfl) ⟨Nat.le_of_ble_eq_true rfl, Nat.le_of_ble_eq_true rfl⟩ ⟨Nat.zero_le _, Nat.zero_le _⟩ dX8_longest_50 rfl ?_
        refine g_icmp_le C 60 56 dX8_longest_53 (by decide) rfl (fun c => ?_) (fun c => ?_)
        · have h := ifT c h
          refine g_iload_n C 61 2 dX8_longest_60 rfl rfl ?_
          refine g_lv (lv' := [(0, .ref o), (1, .int v1), (3, .int v3)]) [0, 1, 3] rfl ?_
          exact J_61 _ _ h
        · have h := ifF c h
          refine g_lv (lv' := [(0, .ref o), (1, .int v1), (3, .int v3)]) [0, 1, 3] rfl ?_
          exact J_56 _ h
  unfold f_X8_longest at h
  refine g_iload_n C 1 1 dX8_longest_0 rfl rfl ?_
  refine g_iconst C 2 (0 : Int32) dX8_longest_1 rfl rfl ?_
  refine g_iconst C 3 (1 : Int32) dX8_longest_2 rfl rfl ?_
  refine bnd h (fun x1 e1 h => ?_)
  refine g_callSr C 6 [] [.int x1] (ct_X8_isIn L v1 (0 : Int32) (1 : Int32) x1 e1) kX8_isIn kvX8_isIn wl_X8_88 [] rfl rfl rfl rfl rfl (Nat.le_of_ble_eq_true rfl) ⟨Nat.le_of_ble_eq_true rfl, Nat.le_of_ble_eq_true rfl⟩ ⟨Nat.zero_le _, Nat.zero_le _⟩ dX8_longest_3 rfl ?_
  refine g_if_ne C 16 9 dX8_longest_6 (by decide) rfl (fun c => ?_) (fun c => ?_)
  · have h := ifF c h
    refine g_bipush C 18 (-9 : Int32) dX8_longest_16 rfl rfl ?_
    refine g_istore_n C 19 2 [(2, .int (-9 : Int32)), (0, .ref o), (1, .int v1)] dX8_longest_18 rfl rfl 4 hNL (by decide) rfl ?_
    refine g_iconst C 20 (0 : Int32) dX8_longest_19 rfl rfl ?_
    refine g_istore_n C 21 3 [(3, .int (0 : Int32)), (2, .int (-9 : Int32)), (0, .ref o), (1, .int v1)] dX8_longest_20 rfl rfl 4 hNL (by decide) rfl ?_
    refine g_lv (lv' := [(0, .ref o), (1, .int v1), (2, .int (-9 : Int32)), (3, .int (0 : Int32))]) [2, 3, 1, 0] rfl ?_
    exact J_21 _ _ _ _ _ h
  · have h := ifT c h
    refine g_aload_n C 10 0 dX8_longest_9 rfl rfl ?_
    refine g_bipush C 12 (-2 : Int32) dX8_longest_10 rfl rfl ?_
    refine bnd h (fun x2 e2 h => ?_)
    refine g_callVs (w' := (cells8 L o u x2.2)) C 15 [] [.int x2.1] (ct_X8_no L o u S (-2 : Int32) x2 e2) kX8_no kvX8_no wl_X8_77 8 0 rfl rfl rfl rfl rfl rfl rfl (Nat.le_of_ble_eq_true rfl) ⟨Nat.le_of_ble_eq_true rfl, Nat.le_of_ble_eq_true rfl⟩ ⟨Nat.zero_le _, Nat.zero_le _⟩ dX8_longest_12 rfl ?_
    exact g_iret (st := []) C E dX8_longest_15 (by obtain rfl := Option.some.inj h; exact ⟨rfl, rfl⟩)
set_option maxHeartbeats 4000000 in
set_option maxRecDepth 100000 in
theorem ct_X8_row (L : LL) (o : Nat) (u : Nat → Nat) (S : OS) (v1 : Int32) (x : (Int32 × OS)) (h : f_X8_row S v1 = some x) : Ct L yX8_row cX8_row 3 (some .int) (rmk 1 0 0 22) 0 0 [.ref o, .int v1] (cells8 L o u S) (Pv (some (.int x.1)) (cells8 L o u x.2)) := by
  refine g_enter (lv := [(0, .ref o), (1, .int v1)]) kX8_row rfl rfl (Nat.le_of_ble_eq_true rfl) (fun Γ C E hNL => ?_)
  have J_24 : ∀ (v1 : Int32) (v2 : Int32) (S : OS), j_X8_row_24   v1 v2 S = some x → G L Γ 0 0 (cells8 L o u S) 24 [(0, .ref o), (1, .int v1), (2, .int v2)] [] := by
    intro v1 v2 S h
    unfold j_X8_row_24 at h
    refine g_iload_n C 25 2 dX8_row_24 rfl rfl ?_
    refine g_if_eq C 34 28 dX8_row_25 (by decide) rfl (fun c => ?_) (fun c => ?_)
    · have h := ifT c h
      refine g_aload_n C 35 0 dX8_row_34 rfl rfl ?_
      refine g_get (v := .ref (u 25)) C 38 8 0 25 hin_8 rfl rfl (by decide) wf_X8_46 rfl dX8_row_35 rfl ?_
      refine g_aload_n C 39 0 dX8_row_38 rfl rfl ?_
      refine g_get (v := .int (S.1 26)) C 42 8 0 26 hin_8 rfl rfl (by decide) wf_X8_240 rfl dX8_row_39 rfl ?_
      refine g_iload_n C 43 1 dX8_row_42 rfl rfl ?_
      refine grdE h (fun hb h => ?_)
      refine g_iast (f := (S.2 25)) (w' := (cells8 L o u (sa S 25 (upd (S.2 25) ((S.1 26)).toNatClampNeg v1)))) C 44 13 rfl hb dX8_row_43 rfl rfl ?_
      refine g_aload_n C 45 0 dX8_row_44 rfl rfl ?_
      refine g_dup C 46 dX8_row_45 rfl rfl ?_
      refine g_get (v := .int (S.1 26)) C 49 8 0 26 hin_8 rfl rfl (by decide) wf_X8_240 rfl dX8_row_46 rfl ?_
      refine g_iconst C 50 (1 : Int32) dX8_row_49 rfl rfl ?_
      refine g_iadd C 51 dX8_row_50 rfl ?_
      refine g_put (w' := (cells8 L o u (su (sa S 25 (upd (S.2 25) ((S.1 26)).toNatClampNeg v1)) 26 ((S.1 26) + (1 : Int32))))) C 54 8 0 26 hin_8 tyX8 tyX8_ok nmX8 rfl rfl (by decide) wf_X8_240 rfl rfl rfl (Nat.le_of_ble_eq_true rfl) dX8_row_51 rfl rfl ?_
      refine g_aload_n C 55 0 dX8_row_54 rfl rfl ?_
      refine g_get (v := .int ((S.1 26) + (1 : Int32))) C 58 8 0 26 hin_8 rfl rfl (by decide) wf_X8_240 rfl dX8_row_55 rfl ?_
      exact g_iret (st := []) C E dX8_row_58 (by obtain rfl := Option.some.inj h; exact ⟨rfl, rfl⟩)
    · have h := ifF c h
      refine g_aload_n C 29 0 dX8_row_28 rfl rfl ?_
      refine g_iload_n C 30 2 dX8_row_29 rfl rfl ?_
      refine bnd h (fun x2 e2 h => ?_)
      refine g_callVs (w' := (cells8 L o u x2.2)) C 33 [] [.int x2.1] (ct_X8_no L o u S v2 x2 e2) kX8_no kvX8_no wl_X8_77 8 0 rfl rfl rfl rfl rfl rfl rfl (Nat.le_of_ble_eq_true rfl) ⟨Nat.le_of_ble_eq_true rfl, Nat.le_of_ble_eq_true rfl⟩ ⟨Nat.zero_le _, Nat.zero_le _⟩ dX8_row_30 rfl ?_
      exact g_iret (st := []) C E dX8_row_33 (by obtain rfl := Option.some.inj h; exact ⟨rfl, rfl⟩)
  unfold f_X8_row at h
  refine g_iload_n C 1 1 dX8_row_0 rfl rfl ?_
  refine g_iconst C 2 (0 : Int32) dX8_row_1 rfl rfl ?_
  refine g_bipush C 4 (99 : Int32) dX8_row_2 rfl rfl ?_
  refine bnd h (fun x1 e1 h => ?_)
  refine g_callSr C 7 [] [.int x1] (ct_X8_bound L v1 (0 : Int32) (99 : Int32) x1 e1) kX8_bound kvX8_bound wl_X8_70 [] rfl rfl rfl rfl rfl (Nat.le_of_ble_eq_true rfl) ⟨Nat.le_of_ble_eq_true rfl, Nat.le_of_ble_eq_true rfl⟩ ⟨Nat.zero_le _, Nat.zero_le _⟩ dX8_row_4 rfl ?_
  refine g_istore_n C 8 2 [(2, .int x1), (0, .ref o), (1, .int v1)] dX8_row_7 rfl rfl 3 hNL (by decide) rfl ?_
  refine g_iload_n C 9 0 dX8_row_8 rfl rfl ?_
  refine g_if_ne C 24 12 dX8_row_9 (by decide) rfl (fun c => ?_) (fun c => ?_)
  · have h := ifF c h
    refine g_lv (lv' := [(0, .ref o), (1, .int v1), (2, .int x1)]) [1, 2, 0] rfl ?_
    exact J_24 _ _ _ h
  · have h := ifT c h
    refine g_aload_n C 13 1 dX8_row_12 rfl rfl ?_
    refine g_get (v := .int (S.1 26)) C 16 8 0 26 hin_8 rfl rfl (by decide) wf_X8_240 rfl dX8_row_13 rfl ?_
    refine g_bipush C 18 (12 : Int32) dX8_row_16 rfl rfl ?_
    refine g_icmp_ne C 24 21 dX8_row_18 (by decide) rfl (fun c => ?_) (fun c => ?_)
    · have h := ifF c h
      refine g_lv (lv' := [(0, .ref o), (1, .int v1), (2, .int x1)]) [1, 2, 0] rfl ?_
      exact J_24 _ _ _ h
    · have h := ifT c h
      refine g_bipush C 23 (-6 : Int32) dX8_row_21 rfl rfl ?_
      refine g_istore_n C 24 2 [(2, .int (-6 : Int32)), (0, .ref o), (1, .int v1)] dX8_row_23 rfl rfl 3 hNL (by decide) rfl ?_
      refine g_lv (lv' := [(0, .ref o), (1, .int v1), (2, .int (-6 : Int32))]) [1, 2, 0] rfl ?_
      exact J_24 _ _ _ h
set_option maxHeartbeats 4000000 in
set_option maxRecDepth 100000 in
theorem ct_X8_judge (L : LL) (o : Nat) (u : Nat → Nat) (S : OS) (v1 : Int32) (x : (Int32 × OS)) (h : f_X8_judge S v1 = some x) : Ct L yX8_judge cX8_judge 4 (some .int) (rmk 3 0 0 70) 0 0 [.ref o, .int v1] (cells8 L o u S) (Pv (some (.int x.1)) (cells8 L o u x.2)) := by
  refine g_enter (lv := [(0, .ref o), (1, .int v1)]) kX8_judge rfl rfl (Nat.le_of_ble_eq_true rfl) (fun Γ C E hNL => ?_)
  have J_26 : ∀ (n : Nat) (v1 : Int32) (v2 : Int32) (S : OS) (v3 : Int32), Lp1 (b_X8_judge_26   v1 v2 S) n v3 = some x → G L Γ 0 0 (cells8 L o u S) 26 [(0, .ref o), (1, .int v1), (2, .int v2), (3, .int v3)] [] := by
    intro n v1 v2 S
    refine lp_ok1 (fun v3 => G L Γ 0 0 (cells8 L o u S) 26 [(0, .ref o), (1, .int v1), (2, .int v2), (3, .int v3)] []) (fun k_26 hk_26 => ?_) n
    intro v3 h
    unfold b_X8_judge_26 at h
    refine g_iload_n C 27 3 dX8_judge_26 rfl rfl ?_
    refine g_iload_n C 28 2 dX8_judge_27 rfl rfl ?_
    refine g_icmp_ge C 66 31 dX8_judge_28 (by decide) rfl (fun c => ?_) (fun c => ?_)
    · have h := ifT c h
      refine g_bipush C 68 (-9 : Int32) dX8_judge_66 rfl rfl ?_
      exact g_iret (st := []) C E dX8_judge_68 (by obtain rfl := Option.some.inj h; exact ⟨rfl, rfl⟩)
    · have h := ifF c h
      refine g_iload_n C 32 3 dX8_judge_31 rfl rfl ?_
      refine g_aload_n C 33 0 dX8_judge_32 rfl rfl ?_
      refine g_get (v := .int (S.1 7)) C 36 8 0 7 hin_8 rfl rfl (by decide) wf_X8_61 rfl dX8_judge_33 rfl ?_
      refine g_icmp_ge C 58 39 dX8_judge_36 (by decide) rfl (fun c => ?_) (fun c => ?_)
      · have h := ifT c h
        refine g_iload_n C 59 3 dX8_judge_58 rfl rfl ?_
        exact g_iret (st := []) C E dX8_judge_59 (by obtain rfl := Option.some.inj h; exact ⟨rfl, rfl⟩)
      · have h := ifF c h
        refine g_aload_n C 40 0 dX8_judge_39 rfl rfl ?_
        refine g_iload_n C 41 1 dX8_judge_40 rfl rfl ?_
        refine g_iload_n C 42 3 dX8_judge_41 rfl rfl ?_
        refine g_aload_n C 43 0 dX8_judge_42 rfl rfl ?_
        refine g_get (v := .int (S.1 10)) C 46 8 0 10 hin_8 rfl rfl (by decide) wf_X8_52 rfl dX8_judge_43 rfl ?_
        refine bnd h (fun x3 e3 h => ?_)
        refine g_callVs (w' := (cells8 L o u S)) C 49 [] [.int x3] (ct_X8_faultsIn L o u S v1 v3 (S.1 10) x3 e3) kX8_faultsIn kvX8_faultsIn wl_X8_176 8 0 rfl rfl rfl rfl rfl rfl rfl (Nat.le_of_ble_eq_true rfl) ⟨Nat.le_of_ble_eq_true rfl, Nat.le_of_ble_eq_true rfl⟩ ⟨Nat.zero_le _, Nat.zero_le _⟩ dX8_judge_46 rfl ?_
        refine g_aload_n C 50 0 dX8_judge_49 rfl rfl ?_
        refine g_get (v := .ref (u 25)) C 53 8 0 25 hin_8 rfl rfl (by decide) wf_X8_46 rfl dX8_judge_50 rfl ?_
        refine g_iload_n C 54 3 dX8_judge_53 rfl rfl ?_
        refine grdE h (fun hb h => ?_)
        refine g_iald (f := (S.2 25)) C 55 13 rfl hb dX8_judge_54 rfl ?_
        refine g_icmp_eq C 60 58 dX8_judge_55 (by decide) rfl (fun c => ?_) (fun c => ?_)
        · have h := ifT c h
          refine g_iinc C 63 (1 : Int32) 3 [(3, .int (v3 + (1 : Int32))), (0, .ref o), (1, .int v1), (2, .int v2)] dX8_judge_60 rfl rfl 4 hNL (by decide) rfl rfl ?_
          refine g_goto C 26 dX8_judge_63 (by decide) ?_
          refine g_lv (lv' := [(0, .ref o), (1, .int v1), (2, .int v2), (3, .int (v3 + (1 : Int32)))]) [1, 2, 3, 0] rfl ?_
          exact hk_26 _ h
        · have h := ifF c h
          refine g_iload_n C 59 3 dX8_judge_58 rfl rfl ?_
          exact g_iret (st := []) C E dX8_judge_59 (by obtain rfl := Option.some.inj h; exact ⟨rfl, rfl⟩)
  unfold f_X8_judge at h
  refine g_aload_n C 1 0 dX8_judge_0 rfl rfl ?_
  refine g_iload_n C 2 1 dX8_judge_1 rfl rfl ?_
  refine bnd h (fun x1 e1 h => ?_)
  refine g_callVs (w' := (cells8 L o u S)) C 5 [] [.int x1] (ct_X8_isLearner L o u S v1 x1 e1) kX8_isLearner kvX8_isLearner wl_X8_114 8 0 rfl rfl rfl rfl rfl rfl rfl (Nat.le_of_ble_eq_true rfl) ⟨Nat.le_of_ble_eq_true rfl, Nat.le_of_ble_eq_true rfl⟩ ⟨Nat.zero_le _, Nat.zero_le _⟩ dX8_judge_2 rfl ?_
  refine g_if_ne C 14 8 dX8_judge_5 (by decide) rfl (fun c => ?_) (fun c => ?_)
  · have h := ifF c h
    refine g_aload_n C 15 0 dX8_judge_14 rfl rfl ?_
    refine g_get (v := .int (S.1 26)) C 18 8 0 26 hin_8 rfl rfl (by decide) wf_X8_240 rfl dX8_judge_15 rfl ?_
    refine g_istore_n C 19 2 [(2, .int (S.1 26)), (0, .ref o), (1, .int v1)] dX8_judge_18 rfl rfl 4 hNL (by decide) rfl ?_
    refine g_aload_n C 20 1 dX8_judge_19 rfl rfl ?_
    refine g_iconst C 21 (0 : Int32) dX8_judge_20 rfl rfl ?_
    refine g_put (w' := (cells8 L o u (su S 26 (0 : Int32)))) C 24 8 0 26 hin_8 tyX8 tyX8_ok nmX8 rfl rfl (by decide) wf_X8_240 rfl rfl rfl (Nat.le_of_ble_eq_true rfl) dX8_judge_21 rfl rfl ?_
    refine g_iconst C 25 (0 : Int32) dX8_judge_24 rfl rfl ?_
    refine g_istore_n C 26 3 [(3, .int (0 : Int32)), (2, .int (S.1 26)), (0, .ref o), (1, .int v1)] dX8_judge_25 rfl rfl 4 hNL (by decide) rfl ?_
    refine g_lv (lv' := [(0, .ref o), (1, .int v1), (2, .int (S.1 26)), (3, .int (0 : Int32))]) [2, 3, 1, 0] rfl ?_
    exact J_26 _ _ _ _ _ h
  · have h := ifT c h
    refine g_aload_n C 9 0 dX8_judge_8 rfl rfl ?_
    refine g_iconst C 10 (-1 : Int32) dX8_judge_9 rfl rfl ?_
    refine bnd h (fun x2 e2 h => ?_)
    refine g_callVs (w' := (cells8 L o u x2.2)) C 13 [] [.int x2.1] (ct_X8_no L o u S (-1 : Int32) x2 e2) kX8_no kvX8_no wl_X8_77 8 0 rfl rfl rfl rfl rfl rfl rfl (Nat.le_of_ble_eq_true rfl) ⟨Nat.le_of_ble_eq_true rfl, Nat.le_of_ble_eq_true rfl⟩ ⟨Nat.zero_le _, Nat.zero_le _⟩ dX8_judge_10 rfl ?_
    exact g_iret (st := []) C E dX8_judge_13 (by obtain rfl := Option.some.inj h; exact ⟨rfl, rfl⟩)
set_option maxHeartbeats 4000000 in
set_option maxRecDepth 100000 in
theorem ct_X8_clear (L : LL) (o : Nat) (u : Nat → Nat) (S : OS) (x : (Int32 × OS)) (h : f_X8_clear S = some x) : Ct L yX8_clear cX8_clear 2 (some .int) (rmk 0 0 0 0) 0 0 [.ref o] (cells8 L o u S) (Pv (some (.int x.1)) (cells8 L o u x.2)) := by
  refine g_enter (lv := [(0, .ref o)]) kX8_clear rfl rfl (Nat.le_of_ble_eq_true rfl) (fun Γ C E hNL => ?_)
  unfold f_X8_clear at h
  refine g_aload_n C 1 0 dX8_clear_0 rfl rfl ?_
  refine g_get (v := .int (S.1 26)) C 4 8 0 26 hin_8 rfl rfl (by decide) wf_X8_240 rfl dX8_clear_1 rfl ?_
  refine g_istore_n C 5 1 [(1, .int (S.1 26)), (0, .ref o)] dX8_clear_4 rfl rfl 2 hNL (by decide) rfl ?_
  refine g_aload_n C 6 1 dX8_clear_5 rfl rfl ?_
  refine g_iconst C 7 (0 : Int32) dX8_clear_6 rfl rfl ?_
  refine g_put (w' := (cells8 L o u (su S 26 (0 : Int32)))) C 10 8 0 26 hin_8 tyX8 tyX8_ok nmX8 rfl rfl (by decide) wf_X8_240 rfl rfl rfl (Nat.le_of_ble_eq_true rfl) dX8_clear_7 rfl rfl ?_
  refine g_iload_n C 11 0 dX8_clear_10 rfl rfl ?_
  exact g_iret (st := []) C E dX8_clear_11 (by obtain rfl := Option.some.inj h; exact ⟨rfl, rfl⟩)
