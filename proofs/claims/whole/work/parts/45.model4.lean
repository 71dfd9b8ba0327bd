set_option maxHeartbeats 4000000 in
set_option maxRecDepth 100000 in
theorem ct_X8_draw (L : LL) (o : Nat) (u : Nat → Nat) (S : OS) (v1 : Int32) (x : (Int32 × OS)) (h : f_X8_draw S v1 = some x) : Ct L yX8_draw cX8_draw 2 (some .int) (rmk 0 0 0 0) 0 0 [.ref o, .int v1] (cells8 L o u S) (Pv (some (.int x.1)) (cells8 L o u x.2)) := by
  refine g_enter (lv := [(0, .ref o), (1, .int v1)]) kX8_draw rfl rfl (Nat.le_of_ble_eq_true rfl) (fun Γ C E hNL => ?_)
  unfold f_X8_draw at h
  refine g_aload_n C 1 0 dX8_draw_0 rfl rfl ?_
  refine g_aload_n C 2 0 dX8_draw_1 rfl rfl ?_
  refine g_get (v := .int (S.1 28)) C 5 8 0 28 hin_8 rfl rfl (by decide) wf_X8_282 rfl dX8_draw_2 rfl ?_
  refine g_ldcw (v := (1103515245 : Int32)) C 8 dX8_draw_5 rfl wc_X8_285 ?_
  refine g_imul C 9 dX8_draw_8 rfl ?_
  refine g_sipush C 12 (12345 : Int32) dX8_draw_9 rfl rfl ?_
  refine g_iadd C 13 dX8_draw_12 rfl ?_
  refine g_put (w' := (cells8 L o u (su S 28 (((S.1 28) * (1103515245 : Int32)) + (12345 : Int32))))) C 16 8 0 28 hin_8 tyX8 tyX8_ok nmX8 rfl rfl (by decide) wf_X8_282 rfl rfl rfl (Nat.le_of_ble_eq_true rfl) dX8_draw_13 rfl rfl ?_
  refine g_aload_n C 17 0 dX8_draw_16 rfl rfl ?_
  refine g_get (v := .int (((S.1 28) * (1103515245 : Int32)) + (12345 : Int32))) C 20 8 0 28 hin_8 rfl rfl (by decide) wf_X8_282 rfl dX8_draw_17 rfl ?_
  refine g_ldcw (v := (2147483647 : Int32)) C 23 dX8_draw_20 rfl wc_X8_286 ?_
  refine g_iand C 24 dX8_draw_23 rfl ?_
  refine g_ldcw (v := (65536 : Int32)) C 27 dX8_draw_24 rfl wc_X8_287 ?_
  refine g_idiv C 28 dX8_draw_27 rfl (by decide) ?_
  refine g_iload_n C 29 1 dX8_draw_28 rfl rfl ?_
  refine grdN h (fun hne h => ?_)
  refine g_irem C 30 dX8_draw_29 rfl hne ?_
  exact g_iret (st := []) C E dX8_draw_30 (by obtain rfl := Option.some.inj h; exact ⟨rfl, rfl⟩)
set_option maxHeartbeats 4000000 in
set_option maxRecDepth 100000 in
theorem ct_X8_lots (L : LL) (o : Nat) (u : Nat → Nat) (S : OS) (v1 : Int32) (v2 : Int32) (v3 : Int32) (x : (Int32 × OS)) (h : f_X8_lots S v1 v2 v3 = some x) : Ct L yX8_lots cX8_lots 10 (some .int) (rmk 6 0 0 142) 0 0 [.ref o, .int v1, .int v2, .int v3] (cells8 L o u S) (Pv (some (.int x.1)) (cells8 L o u x.2)) := by
  refine g_enter (lv := [(0, .ref o), (1, .int v1), (2, .int v2), (3, .int v3)]) kX8_lots rfl rfl (Nat.le_of_ble_eq_true rfl) (fun Γ C E hNL => ?_)
  have J_150 : ∀ (v3 : Int32) (v5 : Int32) (v6 : Int32) (S : OS), j_X8_lots_150   v3 v5 v6 S = some x → G L Γ 0 0 (cells8 L o u S) 150 [(3, .int v3), (5, .int v5), (6, .int v6)] [] := by
    intro v3 v5 v6 S h
    unfold j_X8_lots_150 at h
    refine g_iload_n C 151 0 dX8_lots_150 rfl rfl ?_
    refine g_if_ne C 159 154 dX8_lots_151 (by decide) rfl (fun c => ?_) (fun c => ?_)
    · have h := ifF c h
      refine g_iload C 161 2 dX8_lots_159 rfl rfl ?_
      exact g_iret (st := []) C E dX8_lots_161 (by obtain rfl := Option.some.inj h; exact ⟨rfl, rfl⟩)
    · have h := ifT c h
      refine g_iload C 156 1 dX8_lots_154 rfl rfl ?_
      refine g_goto C 161 dX8_lots_156 (by decide) ?_
      exact g_iret (st := []) C E dX8_lots_161 (by obtain rfl := Option.some.inj h; exact ⟨rfl, rfl⟩)
  have J_62 : ∀ (n : Nat) (v1 : Int32) (v3 : Int32) (v5 : Int32) (v6 : Int32) (v7 : Int32) (S : OS), Lp4 (b_X8_lots_62   v1 v3) n v5 v6 v7 S = some x → G L Γ 0 0 (cells8 L o u S) 62 [(0, .ref o), (1, .int v1), (3, .int v3), (5, .int v5), (6, .int v6), (7, .int v7)] [] := by
    intro n v1 v3
    refine lp_ok4 (fun v5 v6 v7 S => G L Γ 0 0 (cells8 L o u S) 62 [(0, .ref o), (1, .int v1), (3, .int v3), (5, .int v5), (6, .int v6), (7, .int v7)] []) (fun k_62 hk_62 => ?_) n
    have J_116 : ∀ (v6 : Int32) (v7 : Int32) (v8 : Int32) (v9 : Int32) (s0 : Int32) (s1 : Int32) (S : OS), j_X8_lots_116  k_62 v1 v3 v6 v7 v8 v9 s0 s1 S = some x → G L Γ 0 0 (cells8 L o u S) 116 [(0, .ref o), (1, .int v1), (3, .int v3), (6, .int v6), (7, .int v7), (8, .int v8), (9, .int v9)] [.int s0, .int s1] := by
      intro v6 v7 v8 v9 s0 s1 S h
      unfold j_X8_lots_116 at h
      refine g_iadd C 117 dX8_lots_116 rfl ?_
      refine g_istore C 119 5 [(5, .int (s1 + s0)), (0, .ref o), (1, .int v1), (3, .int v3), (6, .int v6), (7, .int v7), (8, .int v8), (9, .int v9)] dX8_lots_117 rfl 10 hNL (by decide) rfl ?_
      refine g_iload C 121 4 dX8_lots_119 rfl rfl ?_
      refine g_aload_n C 122 1 dX8_lots_121 rfl rfl ?_
      refine g_iload C 124 5 dX8_lots_122 rfl rfl ?_
      refine g_aload_n C 125 1 dX8_lots_124 rfl rfl ?_
      refine g_get (v := .int (S.1 9)) C 128 8 0 9 hin_8 rfl rfl (by decide) wf_X8_67 rfl dX8_lots_125 rfl ?_
      refine grdN h (fun hne h => ?_)
      refine g_irem C 129 dX8_lots_128 rfl hne ?_
      refine g_aload_n C 130 1 dX8_lots_129 rfl rfl ?_
      refine g_get (v := .ref (u 4)) C 133 8 0 4 hin_8 rfl rfl (by decide) wf_X8_22 rfl dX8_lots_130 rfl ?_
      refine g_iload C 135 7 dX8_lots_133 rfl rfl ?_
      refine grdE h (fun hb h => ?_)
      refine g_iald (f := (S.2 4)) C 136 5 rfl hb dX8_lots_135 rfl ?_
      refine g_iload C 138 6 dX8_lots_136 rfl rfl ?_
      refine bnd h (fun x7 e7 h => ?_)
      refine g_callVs (w' := (cells8 L o u S)) C 141 [.int v6] [.int x7, .int v6] (ct_X8_faultsOn L o u S (remI v7 (S.1 9)) ((S.2 4) (v9).toNatClampNeg) v8 x7 e7) kX8_faultsOn kvX8_faultsOn wl_X8_179 8 0 rfl rfl rfl rfl rfl rfl rfl (Nat.le_of_ble_eq_true rfl) ⟨Nat.le_of_ble_eq_true rfl, Nat.le_of_ble_eq_true rfl⟩ ⟨Nat.zero_le _, Nat.zero_le _⟩ dX8_lots_138 rfl ?_
      refine g_iadd C 142 dX8_lots_141 rfl ?_
      refine g_istore C 144 6 [(6, .int (v6 + x7)), (5, .int (s1 + s0)), (0, .ref o), (1, .int v1), (3, .int v3), (7, .int v7), (8, .int v8), (9, .int v9)] dX8_lots_142 rfl 10 hNL (by decide) rfl ?_
      refine g_iinc C 147 (1 : Int32) 5 [(7, .int (v7 + (1 : Int32))), (6, .int (v6 + x7)), (5, .int (s1 + s0)), (0, .ref o), (1, .int v1), (3, .int v3), (8, .int v8), (9, .int v9)] dX8_lots_144 rfl rfl 10 hNL (by decide) rfl rfl ?_
      refine g_goto C 62 dX8_lots_147 (by decide) ?_
      refine g_lv (lv' := [(0, .ref o), (1, .int v1), (3, .int v3), (5, .int (s1 + s0)), (6, .int (v6 + x7)), (7, .int (v7 + (1 : Int32)))]) [3, 4, 5, 2, 1, 0] rfl ?_
      exact hk_62 _ _ _ _ h
    intro v5 v6 v7 S h
    unfold b_X8_lots_62 at h
    refine g_iload C 64 5 dX8_lots_62 rfl rfl ?_
    refine g_iload_n C 65 1 dX8_lots_64 rfl rfl ?_
    refine g_aload_n C 66 0 dX8_lots_65 rfl rfl ?_
    refine g_get (v := .int (S.1 9)) C 69 8 0 9 hin_8 rfl rfl (by decide) wf_X8_67 rfl dX8_lots_66 rfl ?_
    refine g_imul C 70 dX8_lots_69 rfl ?_
    refine g_icmp_ge C 150 73 dX8_lots_70 (by decide) rfl (fun c => ?_) (fun c => ?_)
    · have h := ifT c h
      refine g_lv (lv' := [(3, .int v3), (5, .int v5), (6, .int v6)]) [2, 3, 4] rfl ?_
      exact J_150 _ _ _ _ h
    · have h := ifF c h
      refine g_aload_n C 74 0 dX8_lots_73 rfl rfl ?_
      refine g_bipush C 76 (24 : Int32) dX8_lots_74 rfl rfl ?_
      refine bnd h (fun x4 e4 h => ?_)
      refine g_callVs (w' := (cells8 L o u x4.2)) C 79 [] [.int x4.1] (ct_X8_draw L o u S (24 : Int32) x4 e4) kX8_draw kvX8_draw wl_X8_288 8 0 rfl rfl rfl rfl rfl rfl rfl (Nat.le_of_ble_eq_true rfl) ⟨Nat.le_of_ble_eq_true rfl, Nat.le_of_ble_eq_true rfl⟩ ⟨Nat.zero_le _, Nat.zero_le _⟩ dX8_lots_76 rfl ?_
      refine g_istore C 81 8 [(8, .int x4.1), (0, .ref o), (1, .int v1), (3, .int v3), (5, .int v5), (6, .int v6), (7, .int v7)] dX8_lots_79 rfl 10 hNL (by decide) rfl ?_
      refine g_aload_n C 82 1 dX8_lots_81 rfl rfl ?_
      refine g_aload_n C 83 1 dX8_lots_82 rfl rfl ?_
      refine g_get (v := .int (x4.2.1 8)) C 86 8 0 8 hin_8 rfl rfl (by decide) wf_X8_64 rfl dX8_lots_83 rfl ?_
      refine bnd h (fun x5 e5 h => ?_)
      refine g_callVs (w' := (cells8 L o u x5.2)) C 89 [] [.int x5.1] (ct_X8_draw L o u x4.2 (x4.2.1 8) x5 e5) kX8_draw kvX8_draw wl_X8_288 8 0 rfl rfl rfl rfl rfl rfl rfl (Nat.le_of_ble_eq_true rfl) ⟨Nat.le_of_ble_eq_true rfl, Nat.le_of_ble_eq_true rfl⟩ ⟨Nat.zero_le _, Nat.zero_le _⟩ dX8_lots_86 rfl ?_
      refine g_istore C 91 9 [(9, .int x5.1), (8, .int x4.1), (0, .ref o), (1, .int v1), (3, .int v3), (5, .int v5), (6, .int v6), (7, .int v7)] dX8_lots_89 rfl 10 hNL (by decide) rfl ?_
      refine g_iload C 93 5 dX8_lots_91 rfl rfl ?_
      refine g_aload_n C 94 2 dX8_lots_93 rfl rfl ?_
      refine g_iload C 96 7 dX8_lots_94 rfl rfl ?_
      refine g_aload_n C 97 2 dX8_lots_96 rfl rfl ?_
      refine g_get (v := .int (x5.2.1 9)) C 100 8 0 9 hin_8 rfl rfl (by decide) wf_X8_67 rfl dX8_lots_97 rfl ?_
      refine grdN h (fun hne h => ?_)
      refine g_irem C 101 dX8_lots_100 rfl hne ?_
      refine g_iload C 103 0 dX8_lots_101 rfl rfl ?_
      refine g_iload C 105 1 dX8_lots_103 rfl rfl ?_
      refine bnd h (fun x6 e6 h => ?_)
      refine g_callVs (w' := (cells8 L o u x5.2)) C 108 [.int v5] [.int x6, .int v5] (ct_X8_passesWay L o u x5.2 (remI v7 (x5.2.1 9)) x5.1 x4.1 x6 e6) kX8_passesWay kvX8_passesWay wl_X8_185 8 0 rfl rfl rfl rfl rfl rfl rfl (Nat.le_of_ble_eq_true rfl) ⟨Nat.le_of_ble_eq_true rfl, Nat.le_of_ble_eq_true rfl⟩ ⟨Nat.zero_le _, Nat.zero_le _⟩ dX8_lots_105 rfl ?_
      refine g_if_eq C 115 111 dX8_lots_108 (by decide) rfl (fun c => ?_) (fun c => ?_)
      · have h := ifT c h
        refine g_iconst C 116 (0 : Int32) dX8_lots_115 rfl rfl ?_
        refine g_lv (lv' := [(0, .ref o), (1, .int v1), (3, .int v3), (6, .int v6), (7, .int v7), (8, .int x4.1), (9, .int x5.1)]) [2, 3, 4, 6, 7, 1, 0] rfl ?_
        exact J_116 _ _ _ _ _ _ _ h
      · have h := ifF c h
        refine g_iconst C 112 (1 : Int32) dX8_lots_111 rfl rfl ?_
        refine g_goto C 116 dX8_lots_112 (by decide) ?_
        refine g_lv (lv' := [(0, .ref o), (1, .int v1), (3, .int v3), (6, .int v6), (7, .int v7), (8, .int x4.1), (9, .int x5.1)]) [2, 3, 4, 6, 7, 1, 0] rfl ?_
        exact J_116 _ _ _ _ _ _ _ h
  have J_27 : ∀ (v1 : Int32) (v2 : Int32) (v3 : Int32) (v4 : Int32) (S : OS), j_X8_lots_27   v1 v2 v3 v4 S = some x → G L Γ 0 0 (cells8 L o u S) 27 [(0, .ref o), (1, .int v1), (2, .int v2), (3, .int v3), (4, .int v4)] [] := by
    intro v1 v2 v3 v4 S h
    unfold j_X8_lots_27 at h
    refine g_iload C 29 4 dX8_lots_27 rfl rfl ?_
    refine g_if_eq C 39 32 dX8_lots_29 (by decide) rfl (fun c => ?_) (fun c => ?_)
    · have h := ifT c h
      refine g_aload_n C 40 0 dX8_lots_39 rfl rfl ?_
      refine g_get (v := .int (S.1 8)) C 43 8 0 8 hin_8 rfl rfl (by decide) wf_X8_64 rfl dX8_lots_40 rfl ?_
      refine g_if_ne C 48 46 dX8_lots_43 (by decide) rfl (fun c => ?_) (fun c => ?_)
      · have h := ifF c h
        refine g_aload_n C 49 0 dX8_lots_48 rfl rfl ?_
        refine g_iload_n C 50 2 dX8_lots_49 rfl rfl ?_
        refine g_put (w' := (cells8 L o u (su S 28 v2))) C 53 8 0 28 hin_8 tyX8 tyX8_ok nmX8 rfl rfl (by decide) wf_X8_282 rfl rfl rfl (Nat.le_of_ble_eq_true rfl) dX8_lots_50 rfl rfl ?_
        refine g_iconst C 54 (0 : Int32) dX8_lots_53 rfl rfl ?_
        refine g_istore C 56 5 [(5, .int (0 : Int32)), (0, .ref o), (1, .int v1), (2, .int v2), (3, .int v3), (4, .int v4)] dX8_lots_54 rfl 10 hNL (by decide) rfl ?_
        refine g_iconst C 57 (0 : Int32) dX8_lots_56 rfl rfl ?_
        refine g_istore C 59 6 [(6, .int (0 : Int32)), (5, .int (0 : Int32)), (0, .ref o), (1, .int v1), (2, .int v2), (3, .int v3), (4, .int v4)] dX8_lots_57 rfl 10 hNL (by decide) rfl ?_
        refine g_iconst C 60 (0 : Int32) dX8_lots_59 rfl rfl ?_
        refine g_istore C 62 7 [(7, .int (0 : Int32)), (6, .int (0 : Int32)), (5, .int (0 : Int32)), (0, .ref o), (1, .int v1), (2, .int v2), (3, .int v3), (4, .int v4)] dX8_lots_60 rfl 10 hNL (by decide) rfl ?_
        refine g_lv (lv' := [(0, .ref o), (1, .int v1), (3, .int v3), (5, .int (0 : Int32)), (6, .int (0 : Int32)), (7, .int (0 : Int32))]) [3, 4, 6, 2, 1, 0] rfl ?_
        exact J_62 _ _ _ _ _ _ _ h
      · have h := ifT c h
        refine g_iconst C 47 (0 : Int32) dX8_lots_46 rfl rfl ?_
        exact g_iret (st := []) C E dX8_lots_47 (by obtain rfl := Option.some.inj h; exact ⟨rfl, rfl⟩)
    · have h := ifF c h
      refine g_aload_n C 33 0 dX8_lots_32 rfl rfl ?_
      refine g_iload C 35 4 dX8_lots_33 rfl rfl ?_
      refine bnd h (fun x3 e3 h => ?_)
      refine g_callVs (w' := (cells8 L o u x3.2)) C 38 [] [.int x3.1] (ct_X8_no L o u S v4 x3 e3) kX8_no kvX8_no wl_X8_77 8 0 rfl rfl rfl rfl rfl rfl rfl (Nat.le_of_ble_eq_true rfl) ⟨Nat.le_of_ble_eq_true rfl, Nat.le_of_ble_eq_true rfl⟩ ⟨Nat.zero_le _, Nat.zero_le _⟩ dX8_lots_35 rfl ?_
      exact g_iret (st := []) C E dX8_lots_38 (by obtain rfl := Option.some.inj h; exact ⟨rfl, rfl⟩)
  unfold f_X8_lots at h
  refine g_iload_n C 1 1 dX8_lots_0 rfl rfl ?_
  refine g_iconst C 2 (1 : Int32) dX8_lots_1 rfl rfl ?_
  refine g_bipush C 4 (20 : Int32) dX8_lots_2 rfl rfl ?_
  refine bnd h (fun x1 e1 h => ?_)
  refine g_callSr C 7 [] [.int x1] (ct_X8_bound L v1 (1 : Int32) (20 : Int32) x1 e1) kX8_bound kvX8_bound wl_X8_70 [] rfl rfl rfl rfl rfl (Nat.le_of_ble_eq_true rfl) ⟨Nat.le_of_ble_eq_true rfl, Nat.le_of_ble_eq_true rfl⟩ ⟨Nat.zero_le _, Nat.zero_le _⟩ dX8_lots_4 rfl ?_
  refine g_istore C 9 4 [(4, .int x1), (0, .ref o), (1, .int v1), (2, .int v2), (3, .int v3)] dX8_lots_7 rfl 10 hNL (by decide) rfl ?_
  refine g_iload C 11 0 dX8_lots_9 rfl rfl ?_
  refine g_if_ne C 27 14 dX8_lots_11 (by decide) rfl (fun c => ?_) (fun c => ?_)
  · have h := ifF c h
    refine g_lv (lv' := [(0, .ref o), (1, .int v1), (2, .int v2), (3, .int v3), (4, .int x1)]) [1, 2, 3, 4, 0] rfl ?_
    exact J_27 _ _ _ _ _ h
  · have h := ifT c h
    refine g_iload_n C 15 4 dX8_lots_14 rfl rfl ?_
    refine g_iconst C 16 (0 : Int32) dX8_lots_15 rfl rfl ?_
    refine g_iconst C 17 (1 : Int32) dX8_lots_16 rfl rfl ?_
    refine bnd h (fun x2 e2 h => ?_)
    refine g_callSr C 20 [] [.int x2] (ct_X8_isIn L v3 (0 : Int32) (1 : Int32) x2 e2) kX8_isIn kvX8_isIn wl_X8_88 [] rfl rfl rfl rfl rfl (Nat.le_of_ble_eq_true rfl) ⟨Nat.le_of_ble_eq_true rfl, Nat.le_of_ble_eq_true rfl⟩ ⟨Nat.zero_le _, Nat.zero_le _⟩ dX8_lots_17 rfl ?_
    refine g_if_ne C 27 23 dX8_lots_20 (by decide) rfl (fun c => ?_) (fun c => ?_)
    · have h := ifF c h
      refine g_lv (lv' := [(0, .ref o), (1, .int v1), (2, .int v2), (3, .int v3), (4, .int x1)]) [1, 2, 3, 4, 0] rfl ?_
      exact J_27 _ _ _ _ _ h
    · have h := ifT c h
      refine g_bipush C 25 (-2 : Int32) dX8_lots_23 rfl rfl ?_
      refine g_istore C 27 4 [(4, .int (-2 : Int32)), (0, .ref o), (1, .int v1), (2, .int v2), (3, .int v3)] dX8_lots_25 rfl 10 hNL (by decide) rfl ?_
      refine g_lv (lv' := [(0, .ref o), (1, .int v1), (2, .int v2), (3, .int v3), (4, .int (-2 : Int32))]) [1, 2, 3, 4, 0] rfl ?_
      exact J_27 _ _ _ _ _ h
set_option maxHeartbeats 4000000 in
set_option maxRecDepth 100000 in
theorem ct_X8_count (L : LL) (o : Nat) (u : Nat → Nat) (S : OS) (v1 : Int32) (x : Int32) (h : f_X8_count S v1 = some x) : Ct L yX8_count cX8_count 4 (some .int) (rmk 1 0 0 22) 0 0 [.ref o, .int v1] (cells8 L o u S) (Pv (some (.int x)) (cells8 L o u S)) := by
  refine g_enter (lv := [(0, .ref o), (1, .int v1)]) kX8_count rfl rfl (Nat.le_of_ble_eq_true rfl) (fun Γ C E hNL => ?_)
  have J_112 : ∀ (n : Nat)  (v2 : Int32) (v3 : Int32), Lp2 (b_X8_count_112 S  ) n v2 v3 = some x → G L Γ 0 0 (cells8 L o u S) 112 [(0, .ref o), (2, .int v2), (3, .int v3)] [] := by
    intro n 
    refine lp_ok2 (fun v2 v3 => G L Γ 0 0 (cells8 L o u S) 112 [(0, .ref o), (2, .int v2), (3, .int v3)] []) (fun k_112 hk_112 => ?_) n
    intro v2 v3 h
    unfold b_X8_count_112 at h
    refine g_iload_n C 113 2 dX8_count_112 rfl rfl ?_
    refine g_aload_n C 114 0 dX8_count_113 rfl rfl ?_
    refine g_get (v := .int (S.1 9)) C 117 8 0 9 hin_8 rfl rfl (by decide) wf_X8_67 rfl dX8_count_114 rfl ?_
    refine g_icmp_ge C 138 120 dX8_count_117 (by decide) rfl (fun c => ?_) (fun c => ?_)
    · have h := ifT c h
      refine g_iload_n C 139 1 dX8_count_138 rfl rfl ?_
      exact g_iret (st := []) C E dX8_count_139 (by obtain rfl := Option.some.inj h; exact ⟨rfl, rfl⟩)
    · have h := ifF c h
      refine g_iload_n C 121 1 dX8_count_120 rfl rfl ?_
      refine g_aload_n C 122 0 dX8_count_121 rfl rfl ?_
      refine g_get (v := .ref (u 6)) C 125 8 0 6 hin_8 rfl rfl (by decide) wf_X8_28 rfl dX8_count_122 rfl ?_
      refine g_iload_n C 126 2 dX8_count_125 rfl rfl ?_
      refine grdE h (fun hb h => ?_)
      refine g_iald (f := (S.2 6)) C 127 7 rfl hb dX8_count_126 rfl ?_
      refine bnd h (fun x2 e2 h => ?_)
      refine g_callSr C 130 [.int v2] [.int x2, .int v2] (ct_X8_bits L ((S.2 6) (v3).toNatClampNeg) x2 e2) kX8_bits kvX8_bits wl_X8_212 [] rfl rfl rfl rfl rfl (Nat.le_of_ble_eq_true rfl) ⟨Nat.le_of_ble_eq_true rfl, Nat.le_of_ble_eq_true rfl⟩ ⟨Nat.zero_le _, Nat.zero_le _⟩ dX8_count_127 rfl ?_
      refine g_iadd C 131 dX8_count_130 rfl ?_
      refine g_istore_n C 132 2 [(2, .int (v2 + x2)), (0, .ref o), (3, .int v3)] dX8_count_131 rfl rfl 4 hNL (by decide) rfl ?_
      refine g_iinc C 135 (1 : Int32) 2 [(3, .int (v3 + (1 : Int32))), (2, .int (v2 + x2)), (0, .ref o)] dX8_count_132 rfl rfl 4 hNL (by decide) rfl rfl ?_
      refine g_goto C 112 dX8_count_135 (by decide) ?_
      refine g_lv (lv' := [(0, .ref o), (2, .int (v2 + x2)), (3, .int (v3 + (1 : Int32)))]) [2, 1, 0] rfl ?_
      exact hk_112 _ _ h
  unfold f_X8_count at h
  refine g_iload_n C 1 1 dX8_count_0 rfl rfl ?_
  refine g_bipush C 3 (11 : Int32) dX8_count_1 rfl rfl ?_
  refine g_bipush C 5 (16 : Int32) dX8_count_3 rfl rfl ?_
  refine bnd h (fun x1 e1 h => ?_)
  refine g_callSr C 8 [] [.int x1] (ct_X8_isIn L v1 (11 : Int32) (16 : Int32) x1 e1) kX8_isIn kvX8_isIn wl_X8_88 [] rfl rfl rfl rfl rfl (Nat.le_of_ble_eq_true rfl) ⟨Nat.le_of_ble_eq_true rfl, Nat.le_of_ble_eq_true rfl⟩ ⟨Nat.zero_le _, Nat.zero_le _⟩ dX8_count_5 rfl ?_
  refine g_if_eq C 21 11 dX8_count_8 (by decide) rfl (fun c => ?_) (fun c => ?_)
  · have h := ifT c h
    refine g_iconst C 22 (0 : Int32) dX8_count_21 rfl rfl ?_
    refine g_istore_n C 23 2 [(2, .int (0 : Int32)), (0, .ref o), (1, .int v1)] dX8_count_22 rfl rfl 4 hNL (by decide) rfl ?_
    refine g_iload_n C 24 2 dX8_count_23 rfl rfl ?_
    by_cases c0 : v1 = (0 : Int32)
    · have h := ifT c0 h
      refine g_tabIn C 80 (56) dX8_count_24 (by rw [c0]; decide) (by rw [c0]; decide) (by rw [c0]; rfl) (by decide) ?_
      refine g_aload_n C 81 1 dX8_count_80 rfl rfl ?_
      refine g_get (v := .int (S.1 7)) C 84 8 0 7 hin_8 rfl rfl (by decide) wf_X8_61 rfl dX8_count_81 rfl ?_
      exact g_iret (st := []) C E dX8_count_84 (by obtain rfl := Option.some.inj h; exact ⟨rfl, rfl⟩)
    have h := ifF c0 h
    by_cases c1 : v1 = (1 : Int32)
    · have h := ifT c1 h
      refine g_tabIn C 85 (61) dX8_count_24 (by rw [c1]; decide) (by rw [c1]; decide) (by rw [c1]; rfl) (by decide) ?_
      refine g_aload_n C 86 1 dX8_count_85 rfl rfl ?_
      refine g_get (v := .int (S.1 8)) C 89 8 0 8 hin_8 rfl rfl (by decide) wf_X8_64 rfl dX8_count_86 rfl ?_
      exact g_iret (st := []) C E dX8_count_89 (by obtain rfl := Option.some.inj h; exact ⟨rfl, rfl⟩)
    have h := ifF c1 h
    by_cases c2 : v1 = (2 : Int32)
    · have h := ifT c2 h
      refine g_tabIn C 90 (66) dX8_count_24 (by rw [c2]; decide) (by rw [c2]; decide) (by rw [c2]; rfl) (by decide) ?_
      refine g_aload_n C 91 1 dX8_count_90 rfl rfl ?_
      refine g_get (v := .int (S.1 9)) C 94 8 0 9 hin_8 rfl rfl (by decide) wf_X8_67 rfl dX8_count_91 rfl ?_
      exact g_iret (st := []) C E dX8_count_94 (by obtain rfl := Option.some.inj h; exact ⟨rfl, rfl⟩)
    have h := ifF c2 h
    by_cases c3 : v1 = (3 : Int32)
    · have h := ifT c3 h
      refine g_tabIn C 95 (71) dX8_count_24 (by rw [c3]; decide) (by rw [c3]; decide) (by rw [c3]; rfl) (by decide) ?_
      refine g_aload_n C 96 1 dX8_count_95 rfl rfl ?_
      refine g_get (v := .int (S.1 10)) C 99 8 0 10 hin_8 rfl rfl (by decide) wf_X8_52 rfl dX8_count_96 rfl ?_
      exact g_iret (st := []) C E dX8_count_99 (by obtain rfl := Option.some.inj h; exact ⟨rfl, rfl⟩)
    have h := ifF c3 h
    by_cases c4 : v1 = (4 : Int32)
    · have h := ifT c4 h
      refine g_tabIn C 100 (76) dX8_count_24 (by rw [c4]; decide) (by rw [c4]; decide) (by rw [c4]; rfl) (by decide) ?_
      refine g_aload_n C 101 1 dX8_count_100 rfl rfl ?_
      refine g_get (v := .int (S.1 11)) C 104 8 0 11 hin_8 rfl rfl (by decide) wf_X8_56 rfl dX8_count_101 rfl ?_
      exact g_iret (st := []) C E dX8_count_104 (by obtain rfl := Option.some.inj h; exact ⟨rfl, rfl⟩)
    have h := ifF c4 h
    by_cases c5 : v1 = (5 : Int32)
    · have h := ifT c5 h
      refine g_tabIn C 105 (81) dX8_count_24 (by rw [c5]; decide) (by rw [c5]; decide) (by rw [c5]; rfl) (by decide) ?_
      refine g_aload_n C 106 1 dX8_count_105 rfl rfl ?_
      refine g_get (v := .int (S.1 12)) C 109 8 0 12 hin_8 rfl rfl (by decide) wf_X8_129 rfl dX8_count_106 rfl ?_
      exact g_iret (st := []) C E dX8_count_109 (by obtain rfl := Option.some.inj h; exact ⟨rfl, rfl⟩)
    have h := ifF c5 h
    by_cases c6 : v1 = (6 : Int32)
    · have h := ifT c6 h
      refine g_tabIn C 110 (86) dX8_count_24 (by rw [c6]; decide) (by rw [c6]; decide) (by rw [c6]; rfl) (by decide) ?_
      refine g_iconst C 111 (0 : Int32) dX8_count_110 rfl rfl ?_
      refine g_istore_n C 112 3 [(3, .int (0 : Int32)), (2, .int (0 : Int32)), (0, .ref o), (1, .int v1)] dX8_count_111 rfl rfl 4 hNL (by decide) rfl ?_
      refine g_lv (lv' := [(0, .ref o), (2, .int (0 : Int32)), (3, .int (0 : Int32))]) [2, 1, 0] rfl ?_
      exact J_112 _ _ _ h
    have h := ifF c6 h
    by_cases c7 : v1 = (7 : Int32)
    · have h := ifT c7 h
      refine g_tabIn C 140 (116) dX8_count_24 (by rw [c7]; decide) (by rw [c7]; decide) (by rw [c7]; rfl) (by decide) ?_
      refine g_aload_n C 141 1 dX8_count_140 rfl rfl ?_
      refine g_get (v := .int (S.1 17)) C 144 8 0 17 hin_8 rfl rfl (by decide) wf_X8_74 rfl dX8_count_141 rfl ?_
      exact g_iret (st := []) C E dX8_count_144 (by obtain rfl := Option.some.inj h; exact ⟨rfl, rfl⟩)
    have h := ifF c7 h
    by_cases c8 : v1 = (8 : Int32)
    · have h := ifT c8 h
      refine g_tabIn C 145 (121) dX8_count_24 (by rw [c8]; decide) (by rw [c8]; decide) (by rw [c8]; rfl) (by decide) ?_
      refine g_aload_n C 146 1 dX8_count_145 rfl rfl ?_
      refine g_get (v := .int (S.1 26)) C 149 8 0 26 hin_8 rfl rfl (by decide) wf_X8_240 rfl dX8_count_146 rfl ?_
      exact g_iret (st := []) C E dX8_count_149 (by obtain rfl := Option.some.inj h; exact ⟨rfl, rfl⟩)
    have h := ifF c8 h
    by_cases c9 : v1 = (9 : Int32)
    · have h := ifT c9 h
      refine g_tabIn C 150 (126) dX8_count_24 (by rw [c9]; decide) (by rw [c9]; decide) (by rw [c9]; rfl) (by decide) ?_
      refine g_aload_n C 151 1 dX8_count_150 rfl rfl ?_
      refine g_get (v := .int (S.1 24)) C 154 8 0 24 hin_8 rfl rfl (by decide) wf_X8_149 rfl dX8_count_151 rfl ?_
      exact g_iret (st := []) C E dX8_count_154 (by obtain rfl := Option.some.inj h; exact ⟨rfl, rfl⟩)
    have h := ifF c9 h
    have t0 := ne_toInt c0 (show ((0 : Int32) : Int32).toInt = 0 by decide +kernel)
    have t1 := ne_toInt c1 (show ((1 : Int32) : Int32).toInt = 1 by decide +kernel)
    have t2 := ne_toInt c2 (show ((2 : Int32) : Int32).toInt = 2 by decide +kernel)
    have t3 := ne_toInt c3 (show ((3 : Int32) : Int32).toInt = 3 by decide +kernel)
    have t4 := ne_toInt c4 (show ((4 : Int32) : Int32).toInt = 4 by decide +kernel)
    have t5 := ne_toInt c5 (show ((5 : Int32) : Int32).toInt = 5 by decide +kernel)
    have t6 := ne_toInt c6 (show ((6 : Int32) : Int32).toInt = 6 by decide +kernel)
    have t7 := ne_toInt c7 (show ((7 : Int32) : Int32).toInt = 7 by decide +kernel)
    have t8 := ne_toInt c8 (show ((8 : Int32) : Int32).toInt = 8 by decide +kernel)
    have t9 := ne_toInt c9 (show ((9 : Int32) : Int32).toInt = 9 by decide +kernel)
    by_cases cr : (v1).toInt < 0 ∨ 9 < (v1).toInt
    · refine g_tabOut C 155 dX8_count_24 cr (by decide) ?_
      refine g_bipush C 157 (-9 : Int32) dX8_count_155 rfl rfl ?_
      exact g_iret (st := []) C E dX8_count_157 (by obtain rfl := Option.some.inj h; exact ⟨rfl, rfl⟩)
    · exfalso; omega
  · have h := ifF c h
    refine g_aload_n C 12 0 dX8_count_11 rfl rfl ?_
    refine g_get (v := .ref (u 0)) C 15 8 0 0 hin_8 rfl rfl (by decide) wf_X8_7 rfl dX8_count_12 rfl ?_
    refine g_iload_n C 16 1 dX8_count_15 rfl rfl ?_
    refine g_bipush C 18 (10 : Int32) dX8_count_16 rfl rfl ?_
    refine g_isub C 19 dX8_count_18 rfl ?_
    refine grdE h (fun hb h => ?_)
    refine g_iald (f := (S.2 0)) C 20 1 rfl hb dX8_count_19 rfl ?_
    exact g_iret (st := []) C E dX8_count_20 (by obtain rfl := Option.some.inj h; exact ⟨rfl, rfl⟩)
