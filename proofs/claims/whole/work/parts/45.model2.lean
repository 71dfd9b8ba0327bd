set_option maxHeartbeats 4000000 in
set_option maxRecDepth 100000 in
theorem ct_X8_restore (L : LL) (o : Nat) (u : Nat → Nat) (S : OS) (x : (Int32 × OS)) (h : f_X8_restore S = some x) : Ct L yX8_restore cX8_restore 1 (some .int) (rmk 2 0 0 44) 0 0 [.ref o] (cells8 L o u S) (Pv (some (.int x.1)) (cells8 L o u x.2)) := by
  refine g_enter (lv := [(0, .ref o)]) kX8_restore rfl rfl (Nat.le_of_ble_eq_true rfl) (fun Γ C E hNL => ?_)
  unfold f_X8_restore at h
  refine g_aload_n C 1 0 dX8_restore_0 rfl rfl ?_
  refine g_get (v := .int (S.1 21)) C 4 8 0 21 hin_8 rfl rfl (by decide) wf_X8_166 rfl dX8_restore_1 rfl ?_
  refine g_if_ne C 14 7 dX8_restore_4 (by decide) rfl (fun c => ?_) (fun c => ?_)
  · have h := ifF c h
    refine g_aload_n C 15 0 dX8_restore_14 rfl rfl ?_
    refine g_iconst C 16 (0 : Int32) dX8_restore_15 rfl rfl ?_
    refine g_iconst C 17 (0 : Int32) dX8_restore_16 rfl rfl ?_
    refine bnd h (fun x1 e1 h => ?_)
    refine g_callVs (w' := (cells8 L o u x1)) C 20 [] [] (ct_X8_passesAll L o u S (0 : Int32) (0 : Int32) x1 e1) kX8_passesAll kvX8_passesAll wl_X8_142 8 0 rfl rfl rfl rfl rfl rfl rfl (Nat.le_of_ble_eq_true rfl) ⟨Nat.le_of_ble_eq_true rfl, Nat.le_of_ble_eq_true rfl⟩ ⟨Nat.zero_le _, Nat.zero_le _⟩ dX8_restore_17 rfl ?_
    refine g_aload_n C 21 0 dX8_restore_20 rfl rfl ?_
    refine g_iconst C 22 (0 : Int32) dX8_restore_21 rfl rfl ?_
    refine g_put (w' := (cells8 L o u (su x1 24 (0 : Int32)))) C 25 8 0 24 hin_8 tyX8 tyX8_ok nmX8 rfl rfl (by decide) wf_X8_149 rfl rfl rfl (Nat.le_of_ble_eq_true rfl) dX8_restore_22 rfl rfl ?_
    refine g_aload_n C 26 0 dX8_restore_25 rfl rfl ?_
    refine g_get (v := .int (x1.1 12)) C 29 8 0 12 hin_8 rfl rfl (by decide) wf_X8_129 rfl dX8_restore_26 rfl ?_
    exact g_iret (st := []) C E dX8_restore_29 (by obtain rfl := Option.some.inj h; exact ⟨rfl, rfl⟩)
  · have h := ifT c h
    refine g_aload_n C 8 0 dX8_restore_7 rfl rfl ?_
    refine g_bipush C 10 (-3 : Int32) dX8_restore_8 rfl rfl ?_
    refine bnd h (fun x2 e2 h => ?_)
    refine g_callVs (w' := (cells8 L o u x2.2)) C 13 [] [.int x2.1] (ct_X8_no L o u S (-3 : Int32) x2 e2) kX8_no kvX8_no wl_X8_77 8 0 rfl rfl rfl rfl rfl rfl rfl (Nat.le_of_ble_eq_true rfl) ⟨Nat.le_of_ble_eq_true rfl, Nat.le_of_ble_eq_true rfl⟩ ⟨Nat.zero_le _, Nat.zero_le _⟩ dX8_restore_10 rfl ?_
    exact g_iret (st := []) C E dX8_restore_13 (by obtain rfl := Option.some.inj h; exact ⟨rfl, rfl⟩)
set_option maxHeartbeats 4000000 in
set_option maxRecDepth 100000 in
theorem ct_X8_hardOf (L : LL) (o : Nat) (u : Nat → Nat) (S : OS) (v1 : Int32) (v2 : Int32) (x : Int32) (h : f_X8_hardOf S v1 v2 = some x) : Ct L yX8_hardOf cX8_hardOf 5 (some .int) (rmk 1 0 0 22) 0 0 [.ref o, .int v1, .int v2] (cells8 L o u S) (Pv (some (.int x)) (cells8 L o u S)) := by
  refine g_enter (lv := [(0, .ref o), (1, .int v1), (2, .int v2)]) kX8_hardOf rfl rfl (Nat.le_of_ble_eq_true rfl) (fun Γ C E hNL => ?_)
  have J_24 : ∀ (v1 : Int32) (v2 : Int32) (v3 : Int32) (s0 : Int32) (s1 : Int32), j_X8_hardOf_24 S  v1 v2 v3 s0 s1 = some x → G L Γ 0 0 (cells8 L o u S) 24 [(0, .ref o), (1, .int v1), (2, .int v2), (3, .int v3)] [.int s0, .int s1] := by
    intro v1 v2 v3 s0 s1 h
    unfold j_X8_hardOf_24 at h
    refine g_iadd C 25 dX8_hardOf_24 rfl ?_
    refine g_istore C 27 4 [(4, .int (s1 + s0)), (0, .ref o), (1, .int v1), (2, .int v2), (3, .int v3)] dX8_hardOf_25 rfl 5 hNL (by decide) rfl ?_
    refine g_aload_n C 28 1 dX8_hardOf_27 rfl rfl ?_
    refine g_get (v := .ref (u 1)) C 31 8 0 1 hin_8 rfl rfl (by decide) wf_X8_13 rfl dX8_hardOf_28 rfl ?_
    refine g_iload_n C 32 2 dX8_hardOf_31 rfl rfl ?_
    refine grdE h (fun hb h => ?_)
    refine g_iald (f := (S.2 1)) C 33 2 rfl hb dX8_hardOf_32 rfl ?_
    by_cases c1 : ((S.2 1) (v1).toNatClampNeg) = (1 : Int32)
    · have h := ifT c1 h
      refine g_tabIn C 68 (35) dX8_hardOf_33 (by rw [c1]; decide) (by rw [c1]; decide) (by rw [c1]; rfl) (by decide) ?_
      refine g_iload_n C 69 4 dX8_hardOf_68 rfl rfl ?_
      refine g_iconst C 70 (2 : Int32) dX8_hardOf_69 rfl rfl ?_
      refine g_iadd C 71 dX8_hardOf_70 rfl ?_
      exact g_iret (st := []) C E dX8_hardOf_71 (by obtain rfl := Option.some.inj h; exact ⟨rfl, rfl⟩)
    have h := ifF c1 h
    by_cases c2 : ((S.2 1) (v1).toNatClampNeg) = (2 : Int32)
    · have h := ifT c2 h
      refine g_tabIn C 72 (39) dX8_hardOf_33 (by rw [c2]; decide) (by rw [c2]; decide) (by rw [c2]; rfl) (by decide) ?_
      refine g_iload C 74 0 dX8_hardOf_72 rfl rfl ?_
      exact g_iret (st := []) C E dX8_hardOf_74 (by obtain rfl := Option.some.inj h; exact ⟨rfl, rfl⟩)
    have h := ifF c2 h
    by_cases c3 : ((S.2 1) (v1).toNatClampNeg) = (3 : Int32)
    · have h := ifT c3 h
      refine g_tabIn C 75 (42) dX8_hardOf_33 (by rw [c3]; decide) (by rw [c3]; decide) (by rw [c3]; rfl) (by decide) ?_
      refine g_iload_n C 76 4 dX8_hardOf_75 rfl rfl ?_
      refine g_iconst C 77 (2 : Int32) dX8_hardOf_76 rfl rfl ?_
      refine g_iadd C 78 dX8_hardOf_77 rfl ?_
      refine g_iload_n C 79 3 dX8_hardOf_78 rfl rfl ?_
      refine g_bipush C 81 (8 : Int32) dX8_hardOf_79 rfl rfl ?_
      refine g_icmp_eq C 90 84 dX8_hardOf_81 (by decide) rfl (fun c => ?_) (fun c => ?_)
      · have h := ifT c h
        refine g_iconst C 91 (2 : Int32) dX8_hardOf_90 rfl rfl ?_
        refine g_goto C 95 dX8_hardOf_91 (by decide) ?_
        refine g_imul C 96 dX8_hardOf_95 rfl ?_
        exact g_iret (st := []) C E dX8_hardOf_96 (by obtain rfl := Option.some.inj h; exact ⟨rfl, rfl⟩)
      · have h := ifF c h
        refine g_iload_n C 85 3 dX8_hardOf_84 rfl rfl ?_
        refine g_bipush C 87 (15 : Int32) dX8_hardOf_85 rfl rfl ?_
        refine g_icmp_ne C 94 90 dX8_hardOf_87 (by decide) rfl (fun c => ?_) (fun c => ?_)
        · have h := ifF c h
          refine g_iconst C 95 (1 : Int32) dX8_hardOf_94 rfl rfl ?_
          refine g_imul C 96 dX8_hardOf_95 rfl ?_
          exact g_iret (st := []) C E dX8_hardOf_96 (by obtain rfl := Option.some.inj h; exact ⟨rfl, rfl⟩)
        · have h := ifT c h
          refine g_iconst C 91 (2 : Int32) dX8_hardOf_90 rfl rfl ?_
          refine g_goto C 95 dX8_hardOf_91 (by decide) ?_
          refine g_imul C 96 dX8_hardOf_95 rfl ?_
          exact g_iret (st := []) C E dX8_hardOf_96 (by obtain rfl := Option.some.inj h; exact ⟨rfl, rfl⟩)
    have h := ifF c3 h
    by_cases c4 : ((S.2 1) (v1).toNatClampNeg) = (4 : Int32)
    · have h := ifT c4 h
      refine g_tabIn C 97 (64) dX8_hardOf_33 (by rw [c4]; decide) (by rw [c4]; decide) (by rw [c4]; rfl) (by decide) ?_
      refine g_iload_n C 98 4 dX8_hardOf_97 rfl rfl ?_
      refine g_iconst C 99 (2 : Int32) dX8_hardOf_98 rfl rfl ?_
      refine g_idiv C 100 dX8_hardOf_99 rfl (by decide) ?_
      exact g_iret (st := []) C E dX8_hardOf_100 (by obtain rfl := Option.some.inj h; exact ⟨rfl, rfl⟩)
    have h := ifF c4 h
    by_cases c5 : ((S.2 1) (v1).toNatClampNeg) = (5 : Int32)
    · have h := ifT c5 h
      refine g_tabIn C 101 (68) dX8_hardOf_33 (by rw [c5]; decide) (by rw [c5]; decide) (by rw [c5]; rfl) (by decide) ?_
      refine g_iload C 103 0 dX8_hardOf_101 rfl rfl ?_
      refine g_iconst C 104 (1 : Int32) dX8_hardOf_103 rfl rfl ?_
      refine g_iadd C 105 dX8_hardOf_104 rfl ?_
      exact g_iret (st := []) C E dX8_hardOf_105 (by obtain rfl := Option.some.inj h; exact ⟨rfl, rfl⟩)
    have h := ifF c5 h
    have t1 := ne_toInt c1 (show ((1 : Int32) : Int32).toInt = 1 by decide +kernel)
    have t2 := ne_toInt c2 (show ((2 : Int32) : Int32).toInt = 2 by decide +kernel)
    have t3 := ne_toInt c3 (show ((3 : Int32) : Int32).toInt = 3 by decide +kernel)
    have t4 := ne_toInt c4 (show ((4 : Int32) : Int32).toInt = 4 by decide +kernel)
    have t5 := ne_toInt c5 (show ((5 : Int32) : Int32).toInt = 5 by decide +kernel)
    by_cases cr : (((S.2 1) (v1).toNatClampNeg)).toInt < 1 ∨ 5 < (((S.2 1) (v1).toNatClampNeg)).toInt
    · refine g_tabOut C 106 dX8_hardOf_33 cr (by decide) ?_
      refine g_iload_n C 107 4 dX8_hardOf_106 rfl rfl ?_
      exact g_iret (st := []) C E dX8_hardOf_107 (by obtain rfl := Option.some.inj h; exact ⟨rfl, rfl⟩)
    · exfalso; omega
  unfold f_X8_hardOf at h
  refine g_aload_n C 1 0 dX8_hardOf_0 rfl rfl ?_
  refine g_get (v := .ref (u 2)) C 4 8 0 2 hin_8 rfl rfl (by decide) wf_X8_16 rfl dX8_hardOf_1 rfl ?_
  refine g_iload_n C 5 1 dX8_hardOf_4 rfl rfl ?_
  refine grdE h (fun hb h => ?_)
  refine g_iald (f := (S.2 2)) C 6 3 rfl hb dX8_hardOf_5 rfl ?_
  refine g_istore_n C 7 3 [(3, .int ((S.2 2) (v1).toNatClampNeg)), (0, .ref o), (1, .int v1), (2, .int v2)] dX8_hardOf_6 rfl rfl 5 hNL (by decide) rfl ?_
  refine g_iload_n C 8 0 dX8_hardOf_7 rfl rfl ?_
  refine g_iload_n C 9 3 dX8_hardOf_8 rfl rfl ?_
  refine g_bipush C 11 (15 : Int32) dX8_hardOf_9 rfl rfl ?_
  refine g_bipush C 13 (17 : Int32) dX8_hardOf_11 rfl rfl ?_
  refine bnd h (fun x1 e1 h => ?_)
  refine g_callSr C 16 [.int ((S.2 2) (v1).toNatClampNeg)] [.int x1, .int ((S.2 2) (v1).toNatClampNeg)] (ct_X8_isIn L v2 (15 : Int32) (17 : Int32) x1 e1) kX8_isIn kvX8_isIn wl_X8_88 [] rfl rfl rfl rfl rfl (Nat.le_of_ble_eq_true rfl) ⟨Nat.le_of_ble_eq_true rfl, Nat.le_of_ble_eq_true rfl⟩ ⟨Nat.zero_le _, Nat.zero_le _⟩ dX8_hardOf_13 rfl ?_
  refine g_if_eq C 23 19 dX8_hardOf_16 (by decide) rfl (fun c => ?_) (fun c => ?_)
  · have h := ifT c h
    refine g_iconst C 24 (1 : Int32) dX8_hardOf_23 rfl rfl ?_
    refine g_lv (lv' := [(0, .ref o), (1, .int v1), (2, .int v2), (3, .int ((S.2 2) (v1).toNatClampNeg))]) [1, 2, 3, 0] rfl ?_
    exact J_24 _ _ _ _ _ h
  · have h := ifF c h
    refine g_iconst C 20 (3 : Int32) dX8_hardOf_19 rfl rfl ?_
    refine g_goto C 24 dX8_hardOf_20 (by decide) ?_
    refine g_lv (lv' := [(0, .ref o), (1, .int v1), (2, .int v2), (3, .int ((S.2 2) (v1).toNatClampNeg))]) [1, 2, 3, 0] rfl ?_
    exact J_24 _ _ _ _ _ h
set_option maxHeartbeats 4000000 in
set_option maxRecDepth 100000 in
theorem ct_X8_ballOf (L : LL) (o : Nat) (u : Nat → Nat) (S : OS) (v1 : Int32) (x : Int32) (h : f_X8_ballOf S v1 = some x) : Ct L yX8_ballOf cX8_ballOf 2 (some .int) (rmk 0 0 0 0) 0 0 [.ref o, .int v1] (cells8 L o u S) (Pv (some (.int x)) (cells8 L o u S)) := by
  refine g_enter (lv := [(0, .ref o), (1, .int v1)]) kX8_ballOf rfl rfl (Nat.le_of_ble_eq_true rfl) (fun Γ C E hNL => ?_)
  unfold f_X8_ballOf at h
  refine g_aload_n C 1 0 dX8_ballOf_0 rfl rfl ?_
  refine g_get (v := .ref (u 1)) C 4 8 0 1 hin_8 rfl rfl (by decide) wf_X8_13 rfl dX8_ballOf_1 rfl ?_
  refine g_iload_n C 5 1 dX8_ballOf_4 rfl rfl ?_
  refine grdE h (fun hb h => ?_)
  refine g_iald (f := (S.2 1)) C 6 2 rfl hb dX8_ballOf_5 rfl ?_
  by_cases c2 : ((S.2 1) (v1).toNatClampNeg) = (2 : Int32)
  · have h := ifT c2 h
    refine g_tabIn C 38 (32) dX8_ballOf_6 (by rw [c2]; decide) (by rw [c2]; decide) (by rw [c2]; rfl) (by decide) ?_
    refine g_iconst C 39 (3 : Int32) dX8_ballOf_38 rfl rfl ?_
    exact g_iret (st := []) C E dX8_ballOf_39 (by obtain rfl := Option.some.inj h; exact ⟨rfl, rfl⟩)
  have h := ifF c2 h
  by_cases c3 : ((S.2 1) (v1).toNatClampNeg) = (3 : Int32)
  · have h := ifT c3 h
    refine g_tabIn C 36 (30) dX8_ballOf_6 (by rw [c3]; decide) (by rw [c3]; decide) (by rw [c3]; rfl) (by decide) ?_
    refine g_iconst C 37 (4 : Int32) dX8_ballOf_36 rfl rfl ?_
    exact g_iret (st := []) C E dX8_ballOf_37 (by obtain rfl := Option.some.inj h; exact ⟨rfl, rfl⟩)
  have h := ifF c3 h
  by_cases c4 : ((S.2 1) (v1).toNatClampNeg) = (4 : Int32)
  · have h := ifT c4 h
    refine g_tabIn C 40 (34) dX8_ballOf_6 (by rw [c4]; decide) (by rw [c4]; decide) (by rw [c4]; rfl) (by decide) ?_
    refine g_iconst C 41 (0 : Int32) dX8_ballOf_40 rfl rfl ?_
    exact g_iret (st := []) C E dX8_ballOf_41 (by obtain rfl := Option.some.inj h; exact ⟨rfl, rfl⟩)
  have h := ifF c4 h
  by_cases c5 : ((S.2 1) (v1).toNatClampNeg) = (5 : Int32)
  · have h := ifT c5 h
    refine g_tabIn C 38 (32) dX8_ballOf_6 (by rw [c5]; decide) (by rw [c5]; decide) (by rw [c5]; rfl) (by decide) ?_
    refine g_iconst C 39 (3 : Int32) dX8_ballOf_38 rfl rfl ?_
    exact g_iret (st := []) C E dX8_ballOf_39 (by obtain rfl := Option.some.inj h; exact ⟨rfl, rfl⟩)
  have h := ifF c5 h
  have t2 := ne_toInt c2 (show ((2 : Int32) : Int32).toInt = 2 by decide +kernel)
  have t3 := ne_toInt c3 (show ((3 : Int32) : Int32).toInt = 3 by decide +kernel)
  have t4 := ne_toInt c4 (show ((4 : Int32) : Int32).toInt = 4 by decide +kernel)
  have t5 := ne_toInt c5 (show ((5 : Int32) : Int32).toInt = 5 by decide +kernel)
  by_cases cr : (((S.2 1) (v1).toNatClampNeg)).toInt < 2 ∨ 5 < (((S.2 1) (v1).toNatClampNeg)).toInt
  · refine g_tabOut C 42 dX8_ballOf_6 cr (by decide) ?_
    refine g_iconst C 43 (1 : Int32) dX8_ballOf_42 rfl rfl ?_
    exact g_iret (st := []) C E dX8_ballOf_43 (by obtain rfl := Option.some.inj h; exact ⟨rfl, rfl⟩)
  · exfalso; omega
set_option maxHeartbeats 4000000 in
set_option maxRecDepth 100000 in
theorem ct_X8_faultsIn (L : LL) (o : Nat) (u : Nat → Nat) (S : OS) (v1 : Int32) (v2 : Int32) (v3 : Int32) (x : Int32) (h : f_X8_faultsIn S v1 v2 v3 = some x) : Ct L yX8_faultsIn cX8_faultsIn 5 (some .int) (rmk 2 0 0 46) 0 0 [.ref o, .int v1, .int v2, .int v3] (cells8 L o u S) (Pv (some (.int x)) (cells8 L o u S)) := by
  refine g_enter (lv := [(0, .ref o), (1, .int v1), (2, .int v2), (3, .int v3)]) kX8_faultsIn rfl rfl (Nat.le_of_ble_eq_true rfl) (fun Γ C E hNL => ?_)
  unfold f_X8_faultsIn at h
  refine g_aload_n C 1 0 dX8_faultsIn_0 rfl rfl ?_
  refine g_iload_n C 2 2 dX8_faultsIn_1 rfl rfl ?_
  refine g_iload_n C 3 3 dX8_faultsIn_2 rfl rfl ?_
  refine bnd h (fun x1 e1 h => ?_)
  refine g_callVs (w' := (cells8 L o u S)) C 6 [] [.int x1] (ct_X8_hardOf L o u S v2 v3 x1 e1) kX8_hardOf kvX8_hardOf wl_X8_169 8 0 rfl rfl rfl rfl rfl rfl rfl (Nat.le_of_ble_eq_true rfl) ⟨Nat.le_of_ble_eq_true rfl, Nat.le_of_ble_eq_true rfl⟩ ⟨Nat.zero_le _, Nat.zero_le _⟩ dX8_faultsIn_3 rfl ?_
  refine g_aload_n C 7 0 dX8_faultsIn_6 rfl rfl ?_
  refine g_get (v := .ref (u 5)) C 10 8 0 5 hin_8 rfl rfl (by decide) wf_X8_25 rfl dX8_faultsIn_7 rfl ?_
  refine g_iload_n C 11 1 dX8_faultsIn_10 rfl rfl ?_
  refine grdE h (fun hb h => ?_)
  refine g_iald (f := (S.2 5)) C 12 6 rfl hb dX8_faultsIn_11 rfl ?_
  refine g_isub C 13 dX8_faultsIn_12 rfl ?_
  refine g_istore C 15 4 [(4, .int (x1 - ((S.2 5) (v1).toNatClampNeg))), (0, .ref o), (1, .int v1), (2, .int v2), (3, .int v3)] dX8_faultsIn_13 rfl 5 hNL (by decide) rfl ?_
  refine g_iload C 17 0 dX8_faultsIn_15 rfl rfl ?_
  refine g_if_ge C 24 20 dX8_faultsIn_17 (by decide) rfl (fun c => ?_) (fun c => ?_)
  · have h := ifT c h
    refine g_aload_n C 25 1 dX8_faultsIn_24 rfl rfl ?_
    refine g_get (v := .ref (u 6)) C 28 8 0 6 hin_8 rfl rfl (by decide) wf_X8_28 rfl dX8_faultsIn_25 rfl ?_
    refine g_iload_n C 29 2 dX8_faultsIn_28 rfl rfl ?_
    refine grdE h (fun hb h => ?_)
    refine g_iald (f := (S.2 6)) C 30 7 rfl hb dX8_faultsIn_29 rfl ?_
    refine g_iload_n C 31 3 dX8_faultsIn_30 rfl rfl ?_
    refine bnd h (fun x2 e2 h => ?_)
    refine g_callSr C 34 [] [.int x2] (ct_X8_has L ((S.2 6) (v1).toNatClampNeg) v2 x2 e2) kX8_has kvX8_has wl_X8_173 [] rfl rfl rfl rfl rfl (Nat.le_of_ble_eq_true rfl) ⟨Nat.le_of_ble_eq_true rfl, Nat.le_of_ble_eq_true rfl⟩ ⟨Nat.zero_le _, Nat.zero_le _⟩ dX8_faultsIn_31 rfl ?_
    refine g_if_eq C 44 37 dX8_faultsIn_34 (by decide) rfl (fun c => ?_) (fun c => ?_)
    · have h := ifT c h
      refine g_iload C 46 0 dX8_faultsIn_44 rfl rfl ?_
      exact g_iret (st := []) C E dX8_faultsIn_46 (by obtain rfl := Option.some.inj h; exact ⟨rfl, rfl⟩)
    · have h := ifF c h
      refine g_iload C 39 0 dX8_faultsIn_37 rfl rfl ?_
      refine g_iconst C 40 (2 : Int32) dX8_faultsIn_39 rfl rfl ?_
      refine g_idiv C 41 dX8_faultsIn_40 rfl (by decide) ?_
      refine g_goto C 46 dX8_faultsIn_41 (by decide) ?_
      exact g_iret (st := []) C E dX8_faultsIn_46 (by obtain rfl := Option.some.inj h; exact ⟨rfl, rfl⟩)
  · have h := ifF c h
    refine g_iconst C 21 (0 : Int32) dX8_faultsIn_20 rfl rfl ?_
    refine g_goto C 46 dX8_faultsIn_21 (by decide) ?_
    exact g_iret (st := []) C E dX8_faultsIn_46 (by obtain rfl := Option.some.inj h; exact ⟨rfl, rfl⟩)
set_option maxHeartbeats 4000000 in
set_option maxRecDepth 100000 in
theorem ct_X8_faultsOn (L : LL) (o : Nat) (u : Nat → Nat) (S : OS) (v1 : Int32) (v2 : Int32) (v3 : Int32) (x : Int32) (h : f_X8_faultsOn S v1 v2 v3 = some x) : Ct L yX8_faultsOn cX8_faultsOn 6 (some .int) (rmk 3 0 0 70) 0 0 [.ref o, .int v1, .int v2, .int v3] (cells8 L o u S) (Pv (some (.int x)) (cells8 L o u S)) := by
  refine g_enter (lv := [(0, .ref o), (1, .int v1), (2, .int v2), (3, .int v3)]) kX8_faultsOn rfl rfl (Nat.le_of_ble_eq_true rfl) (fun Γ C E hNL => ?_)
  have J_6 : ∀ (n : Nat) (v1 : Int32) (v2 : Int32) (v3 : Int32) (v4 : Int32) (v5 : Int32), Lp2 (b_X8_faultsOn_6 S  v1 v2 v3) n v4 v5 = some x → G L Γ 0 0 (cells8 L o u S) 6 [(0, .ref o), (1, .int v1), (2, .int v2), (3, .int v3), (4, .int v4), (5, .int v5)] [] := by
    intro n v1 v2 v3
    refine lp_ok2 (fun v4 v5 => G L Γ 0 0 (cells8 L o u S) 6 [(0, .ref o), (1, .int v1), (2, .int v2), (3, .int v3), (4, .int v4), (5, .int v5)] []) (fun k_6 hk_6 => ?_) n
    have J_38 : ∀ (v5 : Int32) (s0 : Int32) (s1 : Int32), j_X8_faultsOn_38 S k_6 v1 v2 v3 v5 s0 s1 = some x → G L Γ 0 0 (cells8 L o u S) 38 [(0, .ref o), (1, .int v1), (2, .int v2), (3, .int v3), (5, .int v5)] [.int s0, .int s1] := by
      intro v5 s0 s1 h
      unfold j_X8_faultsOn_38 at h
      refine g_iadd C 39 dX8_faultsOn_38 rfl ?_
      refine g_istore C 41 4 [(4, .int (s1 + s0)), (0, .ref o), (1, .int v1), (2, .int v2), (3, .int v3), (5, .int v5)] dX8_faultsOn_39 rfl 6 hNL (by decide) rfl ?_
      refine g_iinc C 44 (1 : Int32) 5 [(5, .int (v5 + (1 : Int32))), (4, .int (s1 + s0)), (0, .ref o), (1, .int v1), (2, .int v2), (3, .int v3)] dX8_faultsOn_41 rfl rfl 6 hNL (by decide) rfl rfl ?_
      refine g_goto C 6 dX8_faultsOn_44 (by decide) ?_
      refine g_lv (lv' := [(0, .ref o), (1, .int v1), (2, .int v2), (3, .int v3), (4, .int (s1 + s0)), (5, .int (v5 + (1 : Int32)))]) [2, 3, 4, 5, 1, 0] rfl ?_
      exact hk_6 _ _ h
    intro v4 v5 h
    unfold b_X8_faultsOn_6 at h
    refine g_iload C 8 5 dX8_faultsOn_6 rfl rfl ?_
    refine g_aload_n C 9 0 dX8_faultsOn_8 rfl rfl ?_
    refine g_get (v := .int (S.1 7)) C 12 8 0 7 hin_8 rfl rfl (by decide) wf_X8_61 rfl dX8_faultsOn_9 rfl ?_
    refine g_icmp_ge C 47 15 dX8_faultsOn_12 (by decide) rfl (fun c => ?_) (fun c => ?_)
    · have h := ifT c h
      refine g_iload C 49 4 dX8_faultsOn_47 rfl rfl ?_
      exact g_iret (st := []) C E dX8_faultsOn_49 (by obtain rfl := Option.some.inj h; exact ⟨rfl, rfl⟩)
    · have h := ifF c h
      refine g_iload C 17 4 dX8_faultsOn_15 rfl rfl ?_
      refine g_iload_n C 18 2 dX8_faultsOn_17 rfl rfl ?_
      refine g_iload C 20 5 dX8_faultsOn_18 rfl rfl ?_
      refine bnd h (fun x1 e1 h => ?_)
      refine g_callSr C 23 [.int v4] [.int x1, .int v4] (ct_X8_has L v2 v5 x1 e1) kX8_has kvX8_has wl_X8_173 [] rfl rfl rfl rfl rfl (Nat.le_of_ble_eq_true rfl) ⟨Nat.le_of_ble_eq_true rfl, Nat.le_of_ble_eq_true rfl⟩ ⟨Nat.zero_le _, Nat.zero_le _⟩ dX8_faultsOn_20 rfl ?_
      refine g_if_eq C 37 26 dX8_faultsOn_23 (by decide) rfl (fun c => ?_) (fun c => ?_)
      · have h := ifT c h
        refine g_iconst C 38 (0 : Int32) dX8_faultsOn_37 rfl rfl ?_
        refine g_lv (lv' := [(0, .ref o), (1, .int v1), (2, .int v2), (3, .int v3), (5, .int v5)]) [0, 1, 2, 3, 5] rfl ?_
        exact J_38 _ _ _ h
      · have h := ifF c h
        refine g_aload_n C 27 0 dX8_faultsOn_26 rfl rfl ?_
        refine g_iload_n C 28 1 dX8_faultsOn_27 rfl rfl ?_
        refine g_iload C 30 5 dX8_faultsOn_28 rfl rfl ?_
        refine g_iload_n C 31 3 dX8_faultsOn_30 rfl rfl ?_
        refine bnd h (fun x2 e2 h => ?_)
        refine g_callVs (w' := (cells8 L o u S)) C 34 [.int v4] [.int x2, .int v4] (ct_X8_faultsIn L o u S v1 v5 v3 x2 e2) kX8_faultsIn kvX8_faultsIn wl_X8_176 8 0 rfl rfl rfl rfl rfl rfl rfl (Nat.le_of_ble_eq_true rfl) ⟨Nat.le_of_ble_eq_true rfl, Nat.le_of_ble_eq_true rfl⟩ ⟨Nat.zero_le _, Nat.zero_le _⟩ dX8_faultsOn_31 rfl ?_
        refine g_goto C 38 dX8_faultsOn_34 (by decide) ?_
        refine g_lv (lv' := [(0, .ref o), (1, .int v1), (2, .int v2), (3, .int v3), (5, .int v5)]) [0, 1, 2, 3, 5] rfl ?_
        exact J_38 _ _ _ h
  unfold f_X8_faultsOn at h
  refine g_iconst C 1 (0 : Int32) dX8_faultsOn_0 rfl rfl ?_
  refine g_istore C 3 4 [(4, .int (0 : Int32)), (0, .ref o), (1, .int v1), (2, .int v2), (3, .int v3)] dX8_faultsOn_1 rfl 6 hNL (by decide) rfl ?_
  refine g_iconst C 4 (0 : Int32) dX8_faultsOn_3 rfl rfl ?_
  refine g_istore C 6 5 [(5, .int (0 : Int32)), (4, .int (0 : Int32)), (0, .ref o), (1, .int v1), (2, .int v2), (3, .int v3)] dX8_faultsOn_4 rfl 6 hNL (by decide) rfl ?_
  refine g_lv (lv' := [(0, .ref o), (1, .int v1), (2, .int v2), (3, .int v3), (4, .int (0 : Int32)), (5, .int (0 : Int32))]) [2, 3, 4, 5, 1, 0] rfl ?_
  exact J_6 _ _ _ _ _ _ h
set_option maxHeartbeats 4000000 in
set_option maxRecDepth 100000 in
theorem ct_X8_isPassed (L : LL) (o : Nat) (u : Nat → Nat) (S : OS) (v1 : Int32) (v2 : Int32) (v3 : Int32) (x : Int32) (h : f_X8_isPassed S v1 v2 v3 = some x) : Ct L yX8_isPassed cX8_isPassed 5 (some .boolean) (rmk 4 0 0 95) 0 0 [.ref o, .int v1, .int v2, .int v3] (cells8 L o u S) (Pv (some (.int x)) (cells8 L o u S)) := by
  refine g_enter (lv := [(0, .ref o), (1, .int v1), (2, .int v2), (3, .int v3)]) kX8_isPassed rfl rfl (Nat.le_of_ble_eq_true rfl) (fun Γ C E hNL => ?_)
  have J_41 : ∀ (v1 : Int32) (v2 : Int32) (v3 : Int32), j_X8_isPassed_41 S  v1 v2 v3 = some x → G L Γ 0 0 (cells8 L o u S) 41 [(0, .ref o), (1, .int v1), (2, .int v2), (3, .int v3)] [] := by
    intro v1 v2 v3 h
    unfold j_X8_isPassed_41 at h
    refine g_aload_n C 42 0 dX8_isPassed_41 rfl rfl ?_
    refine g_iload_n C 43 1 dX8_isPassed_42 rfl rfl ?_
    refine g_iload_n C 44 2 dX8_isPassed_43 rfl rfl ?_
    refine g_iload_n C 45 3 dX8_isPassed_44 rfl rfl ?_
    refine bnd h (fun x3 e3 h => ?_)
    refine g_callVs (w' := (cells8 L o u S)) C 48 [] [.int x3] (ct_X8_faultsOn L o u S v1 v2 v3 x3 e3) kX8_faultsOn kvX8_faultsOn wl_X8_179 8 0 rfl rfl rfl rfl rfl rfl rfl (Nat.le_of_ble_eq_true rfl) ⟨Nat.le_of_ble_eq_true rfl, Nat.le_of_ble_eq_true rfl⟩ ⟨Nat.zero_le _, Nat.zero_le _⟩ dX8_isPassed_45 rfl ?_
    refine g_aload_n C 49 0 dX8_isPassed_48 rfl rfl ?_
    refine g_get (v := .int (S.1 11)) C 52 8 0 11 hin_8 rfl rfl (by decide) wf_X8_56 rfl dX8_isPassed_49 rfl ?_
    refine g_icmp_gt C 59 55 dX8_isPassed_52 (by decide) rfl (fun c => ?_) (fun c => ?_)
    · have h := ifT c h
      refine g_iconst C 60 (0 : Int32) dX8_isPassed_59 rfl rfl ?_
      exact g_zret (st := []) C E dX8_isPassed_60 rfl (by obtain rfl := Option.some.inj h; exact ⟨rfl, rfl⟩)
    · have h := ifF c h
      refine g_iconst C 56 (1 : Int32) dX8_isPassed_55 rfl rfl ?_
      refine g_goto C 60 dX8_isPassed_56 (by decide) ?_
      exact g_zret (st := []) C E dX8_isPassed_60 rfl (by obtain rfl := Option.some.inj h; exact ⟨rfl, rfl⟩)
  have J_3 : ∀ (n : Nat) (v1 : Int32) (v2 : Int32) (v3 : Int32) (v4 : Int32), Lp1 (b_X8_isPassed_3 S  v1 v2 v3) n v4 = some x → G L Γ 0 0 (cells8 L o u S) 3 [(0, .ref o), (1, .int v1), (2, .int v2), (3, .int v3), (4, .int v4)] [] := by
    intro n v1 v2 v3
    refine lp_ok1 (fun v4 => G L Γ 0 0 (cells8 L o u S) 3 [(0, .ref o), (1, .int v1), (2, .int v2), (3, .int v3), (4, .int v4)] []) (fun k_3 hk_3 => ?_) n
    have J_35 : ∀ (v4 : Int32), j_X8_isPassed_35 S k_3 v1 v2 v3 v4 = some x → G L Γ 0 0 (cells8 L o u S) 35 [(0, .ref o), (1, .int v1), (2, .int v2), (3, .int v3), (4, .int v4)] [] := by
      intro v4 h
      unfold j_X8_isPassed_35 at h
      refine g_iinc C 38 (1 : Int32) 4 [(4, .int (v4 + (1 : Int32))), (0, .ref o), (1, .int v1), (2, .int v2), (3, .int v3)] dX8_isPassed_35 rfl rfl 5 hNL (by decide) rfl rfl ?_
      refine g_goto C 3 dX8_isPassed_38 (by decide) ?_
      refine g_lv (lv' := [(0, .ref o), (1, .int v1), (2, .int v2), (3, .int v3), (4, .int (v4 + (1 : Int32)))]) [1, 2, 3, 4, 0] rfl ?_
      exact hk_3 _ h
    intro v4 h
    unfold b_X8_isPassed_3 at h
    refine g_iload C 5 4 dX8_isPassed_3 rfl rfl ?_
    refine g_aload_n C 6 0 dX8_isPassed_5 rfl rfl ?_
    refine g_get (v := .int (S.1 7)) C 9 8 0 7 hin_8 rfl rfl (by decide) wf_X8_61 rfl dX8_isPassed_6 rfl ?_
    refine g_icmp_ge C 41 12 dX8_isPassed_9 (by decide) rfl (fun c => ?_) (fun c => ?_)
    · have h := ifT c h
      refine g_lv (lv' := [(0, .ref o), (1, .int v1), (2, .int v2), (3, .int v3)]) [0, 1, 2, 3] rfl ?_
      exact J_41 _ _ _ h
    · have h := ifF c h
      refine g_iload_n C 13 2 dX8_isPassed_12 rfl rfl ?_
      refine g_iload C 15 4 dX8_isPassed_13 rfl rfl ?_
      refine bnd h (fun x1 e1 h => ?_)
      refine g_callSr C 18 [] [.int x1] (ct_X8_has L v2 v4 x1 e1) kX8_has kvX8_has wl_X8_173 [] rfl rfl rfl rfl rfl (Nat.le_of_ble_eq_true rfl) ⟨Nat.le_of_ble_eq_true rfl, Nat.le_of_ble_eq_true rfl⟩ ⟨Nat.zero_le _, Nat.zero_le _⟩ dX8_isPassed_15 rfl ?_
      refine g_if_eq C 35 21 dX8_isPassed_18 (by decide) rfl (fun c => ?_) (fun c => ?_)
      · have h := ifT c h
        exact J_35 _ h
      · have h := ifF c h
        refine g_aload_n C 22 0 dX8_isPassed_21 rfl rfl ?_
        refine g_iload_n C 23 1 dX8_isPassed_22 rfl rfl ?_
        refine g_iload C 25 4 dX8_isPassed_23 rfl rfl ?_
        refine g_iload_n C 26 3 dX8_isPassed_25 rfl rfl ?_
        refine bnd h (fun x2 e2 h => ?_)
        refine g_callVs (w' := (cells8 L o u S)) C 29 [] [.int x2] (ct_X8_faultsIn L o u S v1 v4 v3 x2 e2) kX8_faultsIn kvX8_faultsIn wl_X8_176 8 0 rfl rfl rfl rfl rfl rfl rfl (Nat.le_of_ble_eq_true rfl) ⟨Nat.le_of_ble_eq_true rfl, Nat.le_of_ble_eq_true rfl⟩ ⟨Nat.zero_le _, Nat.zero_le _⟩ dX8_isPassed_26 rfl ?_
        refine g_iconst C 30 (5 : Int32) dX8_isPassed_29 rfl rfl ?_
        refine g_icmp_le C 35 33 dX8_isPassed_30 (by decide) rfl (fun c => ?_) (fun c => ?_)
        · have h := ifT c h
          exact J_35 _ h
        · have h := ifF c h
          refine g_iconst C 34 (0 : Int32) dX8_isPassed_33 rfl rfl ?_
          exact g_zret (st := []) C E dX8_isPassed_34 rfl (by obtain rfl := Option.some.inj h; exact ⟨rfl, rfl⟩)
  unfold f_X8_isPassed at h
  refine g_iconst C 1 (0 : Int32) dX8_isPassed_0 rfl rfl ?_
  refine g_istore C 3 4 [(4, .int (0 : Int32)), (0, .ref o), (1, .int v1), (2, .int v2), (3, .int v3)] dX8_isPassed_1 rfl 5 hNL (by decide) rfl ?_
  refine g_lv (lv' := [(0, .ref o), (1, .int v1), (2, .int v2), (3, .int v3), (4, .int (0 : Int32))]) [1, 2, 3, 4, 0] rfl ?_
  exact J_3 _ _ _ _ _ h
set_option maxHeartbeats 4000000 in
set_option maxRecDepth 100000 in
theorem ct_X8_passesWay (L : LL) (o : Nat) (u : Nat → Nat) (S : OS) (v1 : Int32) (v2 : Int32) (v3 : Int32) (x : Int32) (h : f_X8_passesWay S v1 v2 v3 = some x) : Ct L yX8_passesWay cX8_passesWay 4 (some .boolean) (rmk 5 0 0 119) 0 0 [.ref o, .int v1, .int v2, .int v3] (cells8 L o u S) (Pv (some (.int x)) (cells8 L o u S)) := by
  refine g_enter (lv := [(0, .ref o), (1, .int v1), (2, .int v2), (3, .int v3)]) kX8_passesWay rfl rfl (Nat.le_of_ble_eq_true rfl) (fun Γ C E hNL => ?_)
  unfold f_X8_passesWay at h
  refine g_aload_n C 1 0 dX8_passesWay_0 rfl rfl ?_
  refine g_iload_n C 2 1 dX8_passesWay_1 rfl rfl ?_
  refine g_aload_n C 3 0 dX8_passesWay_2 rfl rfl ?_
  refine g_get (v := .ref (u 4)) C 6 8 0 4 hin_8 rfl rfl (by decide) wf_X8_22 rfl dX8_passesWay_3 rfl ?_
  refine g_iload_n C 7 2 dX8_passesWay_6 rfl rfl ?_
  refine grdE h (fun hb h => ?_)
  refine g_iald (f := (S.2 4)) C 8 5 rfl hb dX8_passesWay_7 rfl ?_
  refine g_iload_n C 9 3 dX8_passesWay_8 rfl rfl ?_
  refine bnd h (fun x1 e1 h => ?_)
  refine g_callVs (w' := (cells8 L o u S)) C 12 [] [.int x1] (ct_X8_isPassed L o u S v1 ((S.2 4) (v2).toNatClampNeg) v3 x1 e1) kX8_isPassed kvX8_isPassed wl_X8_182 8 0 rfl rfl rfl rfl rfl rfl rfl (Nat.le_of_ble_eq_true rfl) ⟨Nat.le_of_ble_eq_true rfl, Nat.le_of_ble_eq_true rfl⟩ ⟨Nat.zero_le _, Nat.zero_le _⟩ dX8_passesWay_9 rfl ?_
  refine grdE h (fun hb h => ?_)
  exact g_zret (st := []) C E dX8_passesWay_12 hb (by obtain rfl := Option.some.inj h; exact ⟨rfl, rfl⟩)
set_option maxHeartbeats 4000000 in
set_option maxRecDepth 100000 in
theorem ct_X8_passedWays (L : LL) (o : Nat) (u : Nat → Nat) (S : OS) (v1 : Int32) (v2 : Int32) (x : Int32) (h : f_X8_passedWays S v1 v2 = some x) : Ct L yX8_passedWays cX8_passedWays 5 (some .int) (rmk 6 0 0 142) 0 0 [.ref o, .int v1, .int v2] (cells8 L o u S) (Pv (some (.int x)) (cells8 L o u S)) := by
  refine g_enter (lv := [(0, .ref o), (1, .int v1), (2, .int v2)]) kX8_passedWays rfl rfl (Nat.le_of_ble_eq_true rfl) (fun Γ C E hNL => ?_)
  have J_5 : ∀ (n : Nat) (v1 : Int32) (v2 : Int32) (v3 : Int32) (v4 : Int32), Lp2 (b_X8_passedWays_5 S  v1 v2) n v3 v4 = some x → G L Γ 0 0 (cells8 L o u S) 5 [(0, .ref o), (1, .int v1), (2, .int v2), (3, .int v3), (4, .int v4)] [] := by
    intro n v1 v2
    refine lp_ok2 (fun v3 v4 => G L Γ 0 0 (cells8 L o u S) 5 [(0, .ref o), (1, .int v1), (2, .int v2), (3, .int v3), (4, .int v4)] []) (fun k_5 hk_5 => ?_) n
    have J_34 : ∀ (v4 : Int32) (s0 : Int32) (s1 : Int32), j_X8_passedWays_34 S k_5 v1 v2 v4 s0 s1 = some x → G L Γ 0 0 (cells8 L o u S) 34 [(0, .ref o), (1, .int v1), (2, .int v2), (4, .int v4)] [.int s0, .int s1] := by
      intro v4 s0 s1 h
      unfold j_X8_passedWays_34 at h
      refine g_ior C 35 dX8_passedWays_34 rfl ?_
      refine g_istore_n C 36 3 [(3, .int (s1 ||| s0)), (0, .ref o), (1, .int v1), (2, .int v2), (4, .int v4)] dX8_passedWays_35 rfl rfl 5 hNL (by decide) rfl ?_
      refine g_iinc C 39 (1 : Int32) 4 [(4, .int (v4 + (1 : Int32))), (3, .int (s1 ||| s0)), (0, .ref o), (1, .int v1), (2, .int v2)] dX8_passedWays_36 rfl rfl 5 hNL (by decide) rfl rfl ?_
      refine g_goto C 5 dX8_passedWays_39 (by decide) ?_
      refine g_lv (lv' := [(0, .ref o), (1, .int v1), (2, .int v2), (3, .int (s1 ||| s0)), (4, .int (v4 + (1 : Int32)))]) [2, 3, 4, 1, 0] rfl ?_
      exact hk_5 _ _ h
    intro v3 v4 h
    unfold b_X8_passedWays_5 at h
    refine g_iload C 7 4 dX8_passedWays_5 rfl rfl ?_
    refine g_aload_n C 8 0 dX8_passedWays_7 rfl rfl ?_
    refine g_get (v := .int (S.1 8)) C 11 8 0 8 hin_8 rfl rfl (by decide) wf_X8_64 rfl dX8_passedWays_8 rfl ?_
    refine g_icmp_ge C 42 14 dX8_passedWays_11 (by decide) rfl (fun c => ?_) (fun c => ?_)
    · have h := ifT c h
      refine g_iload_n C 43 3 dX8_passedWays_42 rfl rfl ?_
      exact g_iret (st := []) C E dX8_passedWays_43 (by obtain rfl := Option.some.inj h; exact ⟨rfl, rfl⟩)
    · have h := ifF c h
      refine g_iload_n C 15 3 dX8_passedWays_14 rfl rfl ?_
      refine g_aload_n C 16 0 dX8_passedWays_15 rfl rfl ?_
      refine g_iload_n C 17 1 dX8_passedWays_16 rfl rfl ?_
      refine g_iload C 19 4 dX8_passedWays_17 rfl rfl ?_
      refine g_iload_n C 20 2 dX8_passedWays_19 rfl rfl ?_
      refine bnd h (fun x1 e1 h => ?_)
      refine g_callVs (w' := (cells8 L o u S)) C 23 [.int v3] [.int x1, .int v3] (ct_X8_passesWay L o u S v1 v4 v2 x1 e1) kX8_passesWay kvX8_passesWay wl_X8_185 8 0 rfl rfl rfl rfl rfl rfl rfl (Nat.le_of_ble_eq_true rfl) ⟨Nat.le_of_ble_eq_true rfl, Nat.le_of_ble_eq_true rfl⟩ ⟨Nat.zero_le _, Nat.zero_le _⟩ dX8_passedWays_20 rfl ?_
      refine g_if_eq C 33 26 dX8_passedWays_23 (by decide) rfl (fun c => ?_) (fun c => ?_)
      · have h := ifT c h
        refine g_iconst C 34 (0 : Int32) dX8_passedWays_33 rfl rfl ?_
        refine g_lv (lv' := [(0, .ref o), (1, .int v1), (2, .int v2), (4, .int v4)]) [0, 1, 2, 4] rfl ?_
        exact J_34 _ _ _ h
      · have h := ifF c h
        refine g_iconst C 27 (1 : Int32) dX8_passedWays_26 rfl rfl ?_
        refine g_iload C 29 4 dX8_passedWays_27 rfl rfl ?_
        refine g_ishl C 30 dX8_passedWays_29 rfl ?_
        refine g_goto C 34 dX8_passedWays_30 (by decide) ?_
        refine g_lv (lv' := [(0, .ref o), (1, .int v1), (2, .int v2), (4, .int v4)]) [0, 1, 2, 4] rfl ?_
        exact J_34 _ _ _ h
  unfold f_X8_passedWays at h
  refine g_iconst C 1 (0 : Int32) dX8_passedWays_0 rfl rfl ?_
  refine g_istore_n C 2 3 [(3, .int (0 : Int32)), (0, .ref o), (1, .int v1), (2, .int v2)] dX8_passedWays_1 rfl rfl 5 hNL (by decide) rfl ?_
  refine g_iconst C 3 (0 : Int32) dX8_passedWays_2 rfl rfl ?_
  refine g_istore C 5 4 [(4, .int (0 : Int32)), (3, .int (0 : Int32)), (0, .ref o), (1, .int v1), (2, .int v2)] dX8_passedWays_3 rfl 5 hNL (by decide) rfl ?_
  refine g_lv (lv' := [(0, .ref o), (1, .int v1), (2, .int v2), (3, .int (0 : Int32)), (4, .int (0 : Int32))]) [2, 3, 4, 1, 0] rfl ?_
  exact J_5 _ _ _ _ _ h
set_option maxHeartbeats 4000000 in
set_option maxRecDepth 100000 in
theorem ct_X8_streetOf (L : LL) (o : Nat) (u : Nat → Nat) (S : OS) (v1 : Int32) (v2 : Int32) (x : (Int32 × OS)) (h : f_X8_streetOf S v1 v2 = some x) : Ct L yX8_streetOf cX8_streetOf 3 (some .int) (rmk 2 0 0 46) 0 0 [.ref o, .int v1, .int v2] (cells8 L o u S) (Pv (some (.int x.1)) (cells8 L o u x.2)) := by
  refine g_enter (lv := [(0, .ref o), (1, .int v1), (2, .int v2)]) kX8_streetOf rfl rfl (Nat.le_of_ble_eq_true rfl) (fun Γ C E hNL => ?_)
  unfold f_X8_streetOf at h
  refine g_aload_n C 1 0 dX8_streetOf_0 rfl rfl ?_
  refine g_iload_n C 2 1 dX8_streetOf_1 rfl rfl ?_
  refine bnd h (fun x1 e1 h => ?_)
  refine g_callVs (w' := (cells8 L o u S)) C 5 [] [.int x1] (ct_X8_isStreet L o u S v1 x1 e1) kX8_isStreet kvX8_isStreet wl_X8_117 8 0 rfl rfl rfl rfl rfl rfl rfl (Nat.le_of_ble_eq_true rfl) ⟨Nat.le_of_ble_eq_true rfl, Nat.le_of_ble_eq_true rfl⟩ ⟨Nat.zero_le _, Nat.zero_le _⟩ dX8_streetOf_2 rfl ?_
  refine g_if_ne C 14 8 dX8_streetOf_5 (by decide) rfl (fun c => ?_) (fun c => ?_)
  · have h := ifF c h
    refine g_iload_n C 15 2 dX8_streetOf_14 rfl rfl ?_
    by_cases c0 : v2 = (0 : Int32)
    · have h := ifT c0 h
      refine g_tabIn C 48 (33) dX8_streetOf_15 (by rw [c0]; decide) (by rw [c0]; decide) (by rw [c0]; rfl) (by decide) ?_
      refine g_aload_n C 49 0 dX8_streetOf_48 rfl rfl ?_
      refine g_get (v := .ref (u 1)) C 52 8 0 1 hin_8 rfl rfl (by decide) wf_X8_13 rfl dX8_streetOf_49 rfl ?_
      refine g_iload_n C 53 1 dX8_streetOf_52 rfl rfl ?_
      refine grdE h (fun hb h => ?_)
      refine g_iald (f := (S.2 1)) C 54 2 rfl hb dX8_streetOf_53 rfl ?_
      exact g_iret (st := []) C E dX8_streetOf_54 (by obtain rfl := Option.some.inj h; exact ⟨rfl, rfl⟩)
    have h := ifF c0 h
    by_cases c1 : v2 = (1 : Int32)
    · have h := ifT c1 h
      refine g_tabIn C 55 (40) dX8_streetOf_15 (by rw [c1]; decide) (by rw [c1]; decide) (by rw [c1]; rfl) (by decide) ?_
      refine g_aload_n C 56 0 dX8_streetOf_55 rfl rfl ?_
      refine g_get (v := .ref (u 2)) C 59 8 0 2 hin_8 rfl rfl (by decide) wf_X8_16 rfl dX8_streetOf_56 rfl ?_
      refine g_iload_n C 60 1 dX8_streetOf_59 rfl rfl ?_
      refine grdE h (fun hb h => ?_)
      refine g_iald (f := (S.2 2)) C 61 3 rfl hb dX8_streetOf_60 rfl ?_
      exact g_iret (st := []) C E dX8_streetOf_61 (by obtain rfl := Option.some.inj h; exact ⟨rfl, rfl⟩)
    have h := ifF c1 h
    by_cases c2 : v2 = (2 : Int32)
    · have h := ifT c2 h
      refine g_tabIn C 62 (47) dX8_streetOf_15 (by rw [c2]; decide) (by rw [c2]; decide) (by rw [c2]; rfl) (by decide) ?_
      refine g_aload_n C 63 0 dX8_streetOf_62 rfl rfl ?_
      refine g_get (v := .ref (u 3)) C 66 8 0 3 hin_8 rfl rfl (by decide) wf_X8_19 rfl dX8_streetOf_63 rfl ?_
      refine g_iload_n C 67 1 dX8_streetOf_66 rfl rfl ?_
      refine grdE h (fun hb h => ?_)
      refine g_iald (f := (S.2 3)) C 68 4 rfl hb dX8_streetOf_67 rfl ?_
      exact g_iret (st := []) C E dX8_streetOf_68 (by obtain rfl := Option.some.inj h; exact ⟨rfl, rfl⟩)
    have h := ifF c2 h
    by_cases c3 : v2 = (3 : Int32)
    · have h := ifT c3 h
      refine g_tabIn C 69 (54) dX8_streetOf_15 (by rw [c3]; decide) (by rw [c3]; decide) (by rw [c3]; rfl) (by decide) ?_
      refine g_aload_n C 70 0 dX8_streetOf_69 rfl rfl ?_
      refine g_iload_n C 71 1 dX8_streetOf_70 rfl rfl ?_
      refine g_aload_n C 72 0 dX8_streetOf_71 rfl rfl ?_
      refine g_get (v := .int (S.1 10)) C 75 8 0 10 hin_8 rfl rfl (by decide) wf_X8_52 rfl dX8_streetOf_72 rfl ?_
      refine bnd h (fun x2 e2 h => ?_)
      refine g_callVs (w' := (cells8 L o u S)) C 78 [] [.int x2] (ct_X8_hardOf L o u S v1 (S.1 10) x2 e2) kX8_hardOf kvX8_hardOf wl_X8_169 8 0 rfl rfl rfl rfl rfl rfl rfl (Nat.le_of_ble_eq_true rfl) ⟨Nat.le_of_ble_eq_true rfl, Nat.le_of_ble_eq_true rfl⟩ ⟨Nat.zero_le _, Nat.zero_le _⟩ dX8_streetOf_75 rfl ?_
      exact g_iret (st := []) C E dX8_streetOf_78 (by obtain rfl := Option.some.inj h; exact ⟨rfl, rfl⟩)
    have h := ifF c3 h
    by_cases c4 : v2 = (4 : Int32)
    · have h := ifT c4 h
      refine g_tabIn C 79 (64) dX8_streetOf_15 (by rw [c4]; decide) (by rw [c4]; decide) (by rw [c4]; rfl) (by decide) ?_
      refine g_aload_n C 80 0 dX8_streetOf_79 rfl rfl ?_
      refine g_iload_n C 81 1 dX8_streetOf_80 rfl rfl ?_
      refine bnd h (fun x3 e3 h => ?_)
      refine g_callVs (w' := (cells8 L o u S)) C 84 [] [.int x3] (ct_X8_ballOf L o u S v1 x3 e3) kX8_ballOf kvX8_ballOf wl_X8_188 8 0 rfl rfl rfl rfl rfl rfl rfl (Nat.le_of_ble_eq_true rfl) ⟨Nat.le_of_ble_eq_true rfl, Nat.le_of_ble_eq_true rfl⟩ ⟨Nat.zero_le _, Nat.zero_le _⟩ dX8_streetOf_81 rfl ?_
      exact g_iret (st := []) C E dX8_streetOf_84 (by obtain rfl := Option.some.inj h; exact ⟨rfl, rfl⟩)
    have h := ifF c4 h
    have t0 := ne_toInt c0 (show ((0 : Int32) : Int32).toInt = 0 by decide +kernel)
    have t1 := ne_toInt c1 (show ((1 : Int32) : Int32).toInt = 1 by decide +kernel)
    have t2 := ne_toInt c2 (show ((2 : Int32) : Int32).toInt = 2 by decide +kernel)
    have t3 := ne_toInt c3 (show ((3 : Int32) : Int32).toInt = 3 by decide +kernel)
    have t4 := ne_toInt c4 (show ((4 : Int32) : Int32).toInt = 4 by decide +kernel)
    by_cases cr : (v2).toInt < 0 ∨ 4 < (v2).toInt
    · refine g_tabOut C 85 dX8_streetOf_15 cr (by decide) ?_
      refine g_aload_n C 86 0 dX8_streetOf_85 rfl rfl ?_
      refine g_bipush C 88 (-2 : Int32) dX8_streetOf_86 rfl rfl ?_
      refine bnd h (fun x4 e4 h => ?_)
      refine g_callVs (w' := (cells8 L o u x4.2)) C 91 [] [.int x4.1] (ct_X8_no L o u S (-2 : Int32) x4 e4) kX8_no kvX8_no wl_X8_77 8 0 rfl rfl rfl rfl rfl rfl rfl (Nat.le_of_ble_eq_true rfl) ⟨Nat.le_of_ble_eq_true rfl, Nat.le_of_ble_eq_true rfl⟩ ⟨Nat.zero_le _, Nat.zero_le _⟩ dX8_streetOf_88 rfl ?_
      exact g_iret (st := []) C E dX8_streetOf_91 (by obtain rfl := Option.some.inj h; exact ⟨rfl, rfl⟩)
    · exfalso; omega
  · have h := ifT c h
    refine g_aload_n C 9 0 dX8_streetOf_8 rfl rfl ?_
    refine g_iconst C 10 (-1 : Int32) dX8_streetOf_9 rfl rfl ?_
    refine bnd h (fun x5 e5 h => ?_)
    refine g_callVs (w' := (cells8 L o u x5.2)) C 13 [] [.int x5.1] (ct_X8_no L o u S (-1 : Int32) x5 e5) kX8_no kvX8_no wl_X8_77 8 0 rfl rfl rfl rfl rfl rfl rfl (Nat.le_of_ble_eq_true rfl) ⟨Nat.le_of_ble_eq_true rfl, Nat.le_of_ble_eq_true rfl⟩ ⟨Nat.zero_le _, Nat.zero_le _⟩ dX8_streetOf_10 rfl ?_
    exact g_iret (st := []) C E dX8_streetOf_13 (by obtain rfl := Option.some.inj h; exact ⟨rfl, rfl⟩)
set_option maxHeartbeats 4000000 in
set_option maxRecDepth 100000 in
theorem ct_X8_learnerOf (L : LL) (o : Nat) (u : Nat → Nat) (S : OS) (v1 : Int32) (v2 : Int32) (x : (Int32 × OS)) (h : f_X8_learnerOf S v1 v2 = some x) : Ct L yX8_learnerOf cX8_learnerOf 3 (some .int) (rmk 1 0 0 21) 0 0 [.ref o, .int v1, .int v2] (cells8 L o u S) (Pv (some (.int x.1)) (cells8 L o u x.2)) := by
  refine g_enter (lv := [(0, .ref o), (1, .int v1), (2, .int v2)]) kX8_learnerOf rfl rfl (Nat.le_of_ble_eq_true rfl) (fun Γ C E hNL => ?_)
  unfold f_X8_learnerOf at h
  refine g_aload_n C 1 0 dX8_learnerOf_0 rfl rfl ?_
  refine g_iload_n C 2 1 dX8_learnerOf_1 rfl rfl ?_
  refine bnd h (fun x1 e1 h => ?_)
  refine g_callVs (w' := (cells8 L o u S)) C 5 [] [.int x1] (ct_X8_isLearner L o u S v1 x1 e1) kX8_isLearner kvX8_isLearner wl_X8_114 8 0 rfl rfl rfl rfl rfl rfl rfl (Nat.le_of_ble_eq_true rfl) ⟨Nat.le_of_ble_eq_true rfl, Nat.le_of_ble_eq_true rfl⟩ ⟨Nat.zero_le _, Nat.zero_le _⟩ dX8_learnerOf_2 rfl ?_
  refine g_if_ne C 14 8 dX8_learnerOf_5 (by decide) rfl (fun c => ?_) (fun c => ?_)
  · have h := ifF c h
    refine g_iload_n C 15 2 dX8_learnerOf_14 rfl rfl ?_
    refine g_if_ne C 27 18 dX8_learnerOf_15 (by decide) rfl (fun c => ?_) (fun c => ?_)
    · have h := ifF c h
      refine g_iload_n C 28 2 dX8_learnerOf_27 rfl rfl ?_
      refine g_iconst C 29 (1 : Int32) dX8_learnerOf_28 rfl rfl ?_
      refine g_icmp_ne C 41 32 dX8_learnerOf_29 (by decide) rfl (fun c => ?_) (fun c => ?_)
      · have h := ifF c h
        refine g_aload_n C 42 0 dX8_learnerOf_41 rfl rfl ?_
        refine g_bipush C 44 (-2 : Int32) dX8_learnerOf_42 rfl rfl ?_
        refine bnd h (fun x2 e2 h => ?_)
        refine g_callVs (w' := (cells8 L o u x2.2)) C 47 [] [.int x2.1] (ct_X8_no L o u S (-2 : Int32) x2 e2) kX8_no kvX8_no wl_X8_77 8 0 rfl rfl rfl rfl rfl rfl rfl (Nat.le_of_ble_eq_true rfl) ⟨Nat.le_of_ble_eq_true rfl, Nat.le_of_ble_eq_true rfl⟩ ⟨Nat.zero_le _, Nat.zero_le _⟩ dX8_learnerOf_44 rfl ?_
        exact g_iret (st := []) C E dX8_learnerOf_47 (by obtain rfl := Option.some.inj h; exact ⟨rfl, rfl⟩)
      · have h := ifT c h
        refine g_aload_n C 33 0 dX8_learnerOf_32 rfl rfl ?_
        refine g_get (v := .ref (u 6)) C 36 8 0 6 hin_8 rfl rfl (by decide) wf_X8_28 rfl dX8_learnerOf_33 rfl ?_
        refine g_iload_n C 37 1 dX8_learnerOf_36 rfl rfl ?_
        refine grdE h (fun hb h => ?_)
        refine g_iald (f := (S.2 6)) C 38 7 rfl hb dX8_learnerOf_37 rfl ?_
        refine g_goto C 47 dX8_learnerOf_38 (by decide) ?_
        exact g_iret (st := []) C E dX8_learnerOf_47 (by obtain rfl := Option.some.inj h; exact ⟨rfl, rfl⟩)
    · have h := ifT c h
      refine g_aload_n C 19 0 dX8_learnerOf_18 rfl rfl ?_
      refine g_get (v := .ref (u 5)) C 22 8 0 5 hin_8 rfl rfl (by decide) wf_X8_25 rfl dX8_learnerOf_19 rfl ?_
      refine g_iload_n C 23 1 dX8_learnerOf_22 rfl rfl ?_
      refine grdE h (fun hb h => ?_)
      refine g_iald (f := (S.2 5)) C 24 6 rfl hb dX8_learnerOf_23 rfl ?_
      refine g_goto C 47 dX8_learnerOf_24 (by decide) ?_
      exact g_iret (st := []) C E dX8_learnerOf_47 (by obtain rfl := Option.some.inj h; exact ⟨rfl, rfl⟩)
  · have h := ifT c h
    refine g_aload_n C 9 0 dX8_learnerOf_8 rfl rfl ?_
    refine g_iconst C 10 (-1 : Int32) dX8_learnerOf_9 rfl rfl ?_
    refine bnd h (fun x3 e3 h => ?_)
    refine g_callVs (w' := (cells8 L o u x3.2)) C 13 [] [.int x3.1] (ct_X8_no L o u S (-1 : Int32) x3 e3) kX8_no kvX8_no wl_X8_77 8 0 rfl rfl rfl rfl rfl rfl rfl (Nat.le_of_ble_eq_true rfl) ⟨Nat.le_of_ble_eq_true rfl, Nat.le_of_ble_eq_true rfl⟩ ⟨Nat.zero_le _, Nat.zero_le _⟩ dX8_learnerOf_10 rfl ?_
    exact g_iret (st := []) C E dX8_learnerOf_13 (by obtain rfl := Option.some.inj h; exact ⟨rfl, rfl⟩)
set_option maxHeartbeats 4000000 in
set_option maxRecDepth 100000 in
theorem ct_X8_street (L : LL) (o : Nat) (u : Nat → Nat) (S : OS) (v1 : Int32) (v2 : Int32) (v3 : Int32) (x : (Int32 × OS)) (h : f_X8_street S v1 v2 v3 = some x) : Ct L yX8_street cX8_street 5 (some .int) (rmk 1 0 0 23) 0 0 [.ref o, .int v1, .int v2, .int v3] (cells8 L o u S) (Pv (some (.int x.1)) (cells8 L o u x.2)) := by
  refine g_enter (lv := [(0, .ref o), (1, .int v1), (2, .int v2), (3, .int v3)]) kX8_street rfl rfl (Nat.le_of_ble_eq_true rfl) (fun Γ C E hNL => ?_)
  have J_55 : ∀ (v1 : Int32) (v2 : Int32) (v3 : Int32) (s0 : Int32) (S : OS), j_X8_street_55   v1 v2 v3 s0 S = some x → G L Γ 0 0 (cells8 L o u S) 55 [(0, .ref o), (1, .int v1), (2, .int v2), (3, .int v3)] [.int s0] := by
    intro v1 v2 v3 s0 S h
    unfold j_X8_street_55 at h
    refine g_istore C 57 4 [(4, .int s0), (0, .ref o), (1, .int v1), (2, .int v2), (3, .int v3)] dX8_street_55 rfl 5 hNL (by decide) rfl ?_
    refine g_iload C 59 0 dX8_street_57 rfl rfl ?_
    refine g_if_eq C 69 62 dX8_street_59 (by decide) rfl (fun c => ?_) (fun c => ?_)
    · have h := ifT c h
      refine g_aload_n C 70 1 dX8_street_69 rfl rfl ?_
      refine g_iconst C 71 (0 : Int32) dX8_street_70 rfl rfl ?_
      refine g_put (w' := (cells8 L o u (su S 24 (0 : Int32)))) C 74 8 0 24 hin_8 tyX8 tyX8_ok nmX8 rfl rfl (by decide) wf_X8_149 rfl rfl rfl (Nat.le_of_ble_eq_true rfl) dX8_street_71 rfl rfl ?_
      refine g_aload_n C 75 1 dX8_street_74 rfl rfl ?_
      refine g_iload_n C 76 2 dX8_street_75 rfl rfl ?_
      refine g_iload_n C 77 3 dX8_street_76 rfl rfl ?_
      refine g_iload_n C 78 4 dX8_street_77 rfl rfl ?_
      refine bnd h (fun x2 e2 h => ?_)
      refine g_callVs (w' := (cells8 L o u x2)) C 81 [] [] (ct_X8_addsStreet L o u (su S 24 (0 : Int32)) v1 v2 v3 x2 e2) kX8_addsStreet kvX8_addsStreet wl_X8_106 8 0 rfl rfl rfl rfl rfl rfl rfl (Nat.le_of_ble_eq_true rfl) ⟨Nat.le_of_ble_eq_true rfl, Nat.le_of_ble_eq_true rfl⟩ ⟨Nat.zero_le _, Nat.zero_le _⟩ dX8_street_78 rfl ?_
      refine g_aload_n C 82 1 dX8_street_81 rfl rfl ?_
      refine g_get (v := .int (x2.1 7)) C 85 8 0 7 hin_8 rfl rfl (by decide) wf_X8_61 rfl dX8_street_82 rfl ?_
      refine g_iconst C 86 (1 : Int32) dX8_street_85 rfl rfl ?_
      refine g_isub C 87 dX8_street_86 rfl ?_
      exact g_iret (st := []) C E dX8_street_87 (by obtain rfl := Option.some.inj h; exact ⟨rfl, rfl⟩)
    · have h := ifF c h
      refine g_aload_n C 63 1 dX8_street_62 rfl rfl ?_
      refine g_iload C 65 0 dX8_street_63 rfl rfl ?_
      refine bnd h (fun x3 e3 h => ?_)
      refine g_callVs (w' := (cells8 L o u x3.2)) C 68 [] [.int x3.1] (ct_X8_no L o u S s0 x3 e3) kX8_no kvX8_no wl_X8_77 8 0 rfl rfl rfl rfl rfl rfl rfl (Nat.le_of_ble_eq_true rfl) ⟨Nat.le_of_ble_eq_true rfl, Nat.le_of_ble_eq_true rfl⟩ ⟨Nat.zero_le _, Nat.zero_le _⟩ dX8_street_65 rfl ?_
      exact g_iret (st := []) C E dX8_street_68 (by obtain rfl := Option.some.inj h; exact ⟨rfl, rfl⟩)
  have J_23 : ∀ (v1 : Int32) (v2 : Int32) (v3 : Int32) (S : OS), j_X8_street_23   v1 v2 v3 S = some x → G L Γ 0 0 (cells8 L o u S) 23 [(0, .ref o), (1, .int v1), (2, .int v2), (3, .int v3)] [] := by
    intro v1 v2 v3 S h
    unfold j_X8_street_23 at h
    refine g_bipush C 25 (-4 : Int32) dX8_street_23 rfl rfl ?_
    refine g_goto C 55 dX8_street_25 (by decide) ?_
    exact J_55 _ _ _ _ _ h
  have J_49 : ∀ (v1 : Int32) (v2 : Int32) (v3 : Int32) (S : OS), j_X8_street_49   v1 v2 v3 S = some x → G L Γ 0 0 (cells8 L o u S) 49 [(0, .ref o), (1, .int v1), (2, .int v2), (3, .int v3)] [] := by
    intro v1 v2 v3 S h
    unfold j_X8_street_49 at h
    refine g_bipush C 51 (-6 : Int32) dX8_street_49 rfl rfl ?_
    refine g_goto C 55 dX8_street_51 (by decide) ?_
    exact J_55 _ _ _ _ _ h
  unfold f_X8_street at h
  refine g_iload_n C 1 1 dX8_street_0 rfl rfl ?_
  refine g_iconst C 2 (0 : Int32) dX8_street_1 rfl rfl ?_
  refine g_iconst C 3 (5 : Int32) dX8_street_2 rfl rfl ?_
  refine bnd h (fun x1 e1 h => ?_)
  refine g_callSr C 6 [] [.int x1] (ct_X8_isIn L v1 (0 : Int32) (5 : Int32) x1 e1) kX8_isIn kvX8_isIn wl_X8_88 [] rfl rfl rfl rfl rfl (Nat.le_of_ble_eq_true rfl) ⟨Nat.le_of_ble_eq_true rfl, Nat.le_of_ble_eq_true rfl⟩ ⟨Nat.zero_le _, Nat.zero_le _⟩ dX8_street_3 rfl ?_
  refine g_if_ne C 14 9 dX8_street_6 (by decide) rfl (fun c => ?_) (fun c => ?_)
  · have h := ifF c h
    refine g_iload_n C 15 2 dX8_street_14 rfl rfl ?_
    refine g_if_lt C 23 18 dX8_street_15 (by decide) rfl (fun c => ?_) (fun c => ?_)
    · have h := ifT c h
      exact J_23 _ _ _ _ h
    · have h := ifF c h
      refine g_iload_n C 19 3 dX8_street_18 rfl rfl ?_
      refine g_iconst C 20 (1 : Int32) dX8_street_19 rfl rfl ?_
      refine g_icmp_ge C 28 23 dX8_street_20 (by decide) rfl (fun c => ?_) (fun c => ?_)
      · have h := ifT c h
        refine g_iload_n C 29 2 dX8_street_28 rfl rfl ?_
        refine g_bipush C 31 (9 : Int32) dX8_street_29 rfl rfl ?_
        refine g_icmp_gt C 49 34 dX8_street_31 (by decide) rfl (fun c => ?_) (fun c => ?_)
        · have h := ifT c h
          exact J_49 _ _ _ _ h
        · have h := ifF c h
          refine g_iload_n C 35 3 dX8_street_34 rfl rfl ?_
          refine g_bipush C 37 (9 : Int32) dX8_street_35 rfl rfl ?_
          refine g_icmp_gt C 49 40 dX8_street_37 (by decide) rfl (fun c => ?_) (fun c => ?_)
          · have h := ifT c h
            exact J_49 _ _ _ _ h
          · have h := ifF c h
            refine g_aload_n C 41 0 dX8_street_40 rfl rfl ?_
            refine g_get (v := .int (S.1 7)) C 44 8 0 7 hin_8 rfl rfl (by decide) wf_X8_61 rfl dX8_street_41 rfl ?_
            refine g_bipush C 46 (8 : Int32) dX8_street_44 rfl rfl ?_
            refine g_icmp_ne C 54 49 dX8_street_46 (by decide) rfl (fun c => ?_) (fun c => ?_)
            · have h := ifF c h
              refine g_iconst C 55 (0 : Int32) dX8_street_54 rfl rfl ?_
              exact J_55 _ _ _ _ _ h
            · have h := ifT c h
              exact J_49 _ _ _ _ h
      · have h := ifF c h
        exact J_23 _ _ _ _ h
  · have h := ifT c h
    refine g_bipush C 11 (-2 : Int32) dX8_street_9 rfl rfl ?_
    refine g_goto C 55 dX8_street_11 (by decide) ?_
    exact J_55 _ _ _ _ _ h
set_option maxHeartbeats 4000000 in
set_option maxRecDepth 100000 in
theorem ct_X8_way (L : LL) (o : Nat) (u : Nat → Nat) (S : OS) (v1 : Int32) (x : (Int32 × OS)) (h : f_X8_way S v1 = some x) : Ct L yX8_way cX8_way 3 (some .int) (rmk 1 0 0 21) 0 0 [.ref o, .int v1] (cells8 L o u S) (Pv (some (.int x.1)) (cells8 L o u x.2)) := by
  refine g_enter (lv := [(0, .ref o), (1, .int v1)]) kX8_way rfl rfl (Nat.le_of_ble_eq_true rfl) (fun Γ C E hNL => ?_)
  have J_35 : ∀ (v1 : Int32) (s0 : Int32) (S : OS), j_X8_way_35   v1 s0 S = some x → G L Γ 0 0 (cells8 L o u S) 35 [(0, .ref o), (1, .int v1)] [.int s0] := by
    intro v1 s0 S h
    unfold j_X8_way_35 at h
    refine g_istore_n C 36 2 [(2, .int s0), (0, .ref o), (1, .int v1)] dX8_way_35 rfl rfl 3 hNL (by decide) rfl ?_
    refine g_iload_n C 37 0 dX8_way_36 rfl rfl ?_
    refine g_if_eq C 46 40 dX8_way_37 (by decide) rfl (fun c => ?_) (fun c => ?_)
    · have h := ifT c h
      refine g_aload_n C 47 1 dX8_way_46 rfl rfl ?_
      refine g_iconst C 48 (0 : Int32) dX8_way_47 rfl rfl ?_
      refine g_put (w' := (cells8 L o u (su S 24 (0 : Int32)))) C 51 8 0 24 hin_8 tyX8 tyX8_ok nmX8 rfl rfl (by decide) wf_X8_149 rfl rfl rfl (Nat.le_of_ble_eq_true rfl) dX8_way_48 rfl rfl ?_
      refine g_aload_n C 52 1 dX8_way_51 rfl rfl ?_
      refine g_get (v := .ref (u 4)) C 55 8 0 4 hin_8 rfl rfl (by decide) wf_X8_22 rfl dX8_way_52 rfl ?_
      refine g_aload_n C 56 1 dX8_way_55 rfl rfl ?_
      refine g_get (v := .int (S.1 8)) C 59 8 0 8 hin_8 rfl rfl (by decide) wf_X8_64 rfl dX8_way_56 rfl ?_
      refine g_iload_n C 60 2 dX8_way_59 rfl rfl ?_
      refine grdE h (fun hb h => ?_)
      refine g_iast (f := (S.2 4)) (w' := (cells8 L o u (sa (su S 24 (0 : Int32)) 4 (upd (S.2 4) ((S.1 8)).toNatClampNeg v1)))) C 61 5 rfl hb dX8_way_60 rfl rfl ?_
      refine g_aload_n C 62 1 dX8_way_61 rfl rfl ?_
      refine g_dup C 63 dX8_way_62 rfl rfl ?_
      refine g_get (v := .int (S.1 8)) C 66 8 0 8 hin_8 rfl rfl (by decide) wf_X8_64 rfl dX8_way_63 rfl ?_
      refine g_iconst C 67 (1 : Int32) dX8_way_66 rfl rfl ?_
      refine g_iadd C 68 dX8_way_67 rfl ?_
      refine g_put (w' := (cells8 L o u (su (sa (su S 24 (0 : Int32)) 4 (upd (S.2 4) ((S.1 8)).toNatClampNeg v1)) 8 ((S.1 8) + (1 : Int32))))) C 71 8 0 8 hin_8 tyX8 tyX8_ok nmX8 rfl rfl (by decide) wf_X8_64 rfl rfl rfl (Nat.le_of_ble_eq_true rfl) dX8_way_68 rfl rfl ?_
      refine g_aload_n C 72 1 dX8_way_71 rfl rfl ?_
      refine g_get (v := .int ((S.1 8) + (1 : Int32))) C 75 8 0 8 hin_8 rfl rfl (by decide) wf_X8_64 rfl dX8_way_72 rfl ?_
      refine g_iconst C 76 (1 : Int32) dX8_way_75 rfl rfl ?_
      refine g_isub C 77 dX8_way_76 rfl ?_
      exact g_iret (st := []) C E dX8_way_77 (by obtain rfl := Option.some.inj h; exact ⟨rfl, rfl⟩)
    · have h := ifF c h
      refine g_aload_n C 41 1 dX8_way_40 rfl rfl ?_
      refine g_iload_n C 42 0 dX8_way_41 rfl rfl ?_
      refine bnd h (fun x1 e1 h => ?_)
      refine g_callVs (w' := (cells8 L o u x1.2)) C 45 [] [.int x1.1] (ct_X8_no L o u S s0 x1 e1) kX8_no kvX8_no wl_X8_77 8 0 rfl rfl rfl rfl rfl rfl rfl (Nat.le_of_ble_eq_true rfl) ⟨Nat.le_of_ble_eq_true rfl, Nat.le_of_ble_eq_true rfl⟩ ⟨Nat.zero_le _, Nat.zero_le _⟩ dX8_way_42 rfl ?_
      exact g_iret (st := []) C E dX8_way_45 (by obtain rfl := Option.some.inj h; exact ⟨rfl, rfl⟩)
  have J_29 : ∀ (v1 : Int32) (S : OS), j_X8_way_29   v1 S = some x → G L Γ 0 0 (cells8 L o u S) 29 [(0, .ref o), (1, .int v1)] [] := by
    intro v1 S h
    unfold j_X8_way_29 at h
    refine g_bipush C 31 (-6 : Int32) dX8_way_29 rfl rfl ?_
    refine g_goto C 35 dX8_way_31 (by decide) ?_
    exact J_35 _ _ _ h
  unfold f_X8_way at h
  refine g_iload_n C 1 1 dX8_way_0 rfl rfl ?_
  refine g_iconst C 2 (1 : Int32) dX8_way_1 rfl rfl ?_
  refine g_icmp_ge C 10 5 dX8_way_2 (by decide) rfl (fun c => ?_) (fun c => ?_)
  · have h := ifT c h
    refine g_iload_n C 11 1 dX8_way_10 rfl rfl ?_
    refine g_iconst C 12 (1 : Int32) dX8_way_11 rfl rfl ?_
    refine g_aload_n C 13 0 dX8_way_12 rfl rfl ?_
    refine g_get (v := .int (S.1 7)) C 16 8 0 7 hin_8 rfl rfl (by decide) wf_X8_61 rfl dX8_way_13 rfl ?_
    refine g_ishl C 17 dX8_way_16 rfl ?_
    refine g_icmp_ge C 29 20 dX8_way_17 (by decide) rfl (fun c => ?_) (fun c => ?_)
    · have h := ifT c h
      exact J_29 _ _ h
    · have h := ifF c h
      refine g_aload_n C 21 0 dX8_way_20 rfl rfl ?_
      refine g_get (v := .int (S.1 8)) C 24 8 0 8 hin_8 rfl rfl (by decide) wf_X8_64 rfl dX8_way_21 rfl ?_
      refine g_bipush C 26 (6 : Int32) dX8_way_24 rfl rfl ?_
      refine g_icmp_ne C 34 29 dX8_way_26 (by decide) rfl (fun c => ?_) (fun c => ?_)
      · have h := ifF c h
        refine g_iconst C 35 (0 : Int32) dX8_way_34 rfl rfl ?_
        exact J_35 _ _ _ h
      · have h := ifT c h
        exact J_29 _ _ h
  · have h := ifF c h
    refine g_bipush C 7 (-4 : Int32) dX8_way_5 rfl rfl ?_
    refine g_goto C 35 dX8_way_7 (by decide) ?_
    exact J_35 _ _ _ h
set_option maxHeartbeats 4000000 in
set_option maxRecDepth 100000 in
theorem ct_X8_learner (L : LL) (o : Nat) (u : Nat → Nat) (S : OS) (v1 : Int32) (x : (Int32 × OS)) (h : f_X8_learner S v1 = some x) : Ct L yX8_learner cX8_learner 3 (some .int) (rmk 1 0 0 22) 0 0 [.ref o, .int v1] (cells8 L o u S) (Pv (some (.int x.1)) (cells8 L o u x.2)) := by
  refine g_enter (lv := [(0, .ref o), (1, .int v1)]) kX8_learner rfl rfl (Nat.le_of_ble_eq_true rfl) (fun Γ C E hNL => ?_)
  have J_23 : ∀ (v1 : Int32) (v2 : Int32) (S : OS), j_X8_learner_23   v1 v2 S = some x → G L Γ 0 0 (cells8 L o u S) 23 [(0, .ref o), (1, .int v1), (2, .int v2)] [] := by
    intro v1 v2 S h
    unfold j_X8_learner_23 at h
    refine g_iload_n C 24 2 dX8_learner_23 rfl rfl ?_
    refine g_if_eq C 33 27 dX8_learner_24 (by decide) rfl (fun c => ?_) (fun c => ?_)
    · have h := ifT c h
      refine g_aload_n C 34 0 dX8_learner_33 rfl rfl ?_
      refine g_iconst C 35 (0 : Int32) dX8_learner_34 rfl rfl ?_
      refine g_put (w' := (cells8 L o u (su S 24 (0 : Int32)))) C 38 8 0 24 hin_8 tyX8 tyX8_ok nmX8 rfl rfl (by decide) wf_X8_149 rfl rfl rfl (Nat.le_of_ble_eq_true rfl) dX8_learner_35 rfl rfl ?_
      refine g_aload_n C 39 0 dX8_learner_38 rfl rfl ?_
      refine g_iload_n C 40 1 dX8_learner_39 rfl rfl ?_
      refine bnd h (fun x2 e2 h => ?_)
      refine g_callVs (w' := (cells8 L o u x2)) C 43 [] [] (ct_X8_addsLearner L o u (su S 24 (0 : Int32)) v1 x2 e2) kX8_addsLearner kvX8_addsLearner wl_X8_110 8 0 rfl rfl rfl rfl rfl rfl rfl (Nat.le_of_ble_eq_true rfl) ⟨Nat.le_of_ble_eq_true rfl, Nat.le_of_ble_eq_true rfl⟩ ⟨Nat.zero_le _, Nat.zero_le _⟩ dX8_learner_40 rfl ?_
      refine g_aload_n C 44 0 dX8_learner_43 rfl rfl ?_
      refine g_get (v := .int (x2.1 9)) C 47 8 0 9 hin_8 rfl rfl (by decide) wf_X8_67 rfl dX8_learner_44 rfl ?_
      refine g_iconst C 48 (1 : Int32) dX8_learner_47 rfl rfl ?_
      refine g_isub C 49 dX8_learner_48 rfl ?_
      exact g_iret (st := []) C E dX8_learner_49 (by obtain rfl := Option.some.inj h; exact ⟨rfl, rfl⟩)
    · have h := ifF c h
      refine g_aload_n C 28 0 dX8_learner_27 rfl rfl ?_
      refine g_iload_n C 29 2 dX8_learner_28 rfl rfl ?_
      refine bnd h (fun x3 e3 h => ?_)
      refine g_callVs (w' := (cells8 L o u x3.2)) C 32 [] [.int x3.1] (ct_X8_no L o u S v2 x3 e3) kX8_no kvX8_no wl_X8_77 8 0 rfl rfl rfl rfl rfl rfl rfl (Nat.le_of_ble_eq_true rfl) ⟨Nat.le_of_ble_eq_true rfl, Nat.le_of_ble_eq_true rfl⟩ ⟨Nat.zero_le _, Nat.zero_le _⟩ dX8_learner_29 rfl ?_
      exact g_iret (st := []) C E dX8_learner_32 (by obtain rfl := Option.some.inj h; exact ⟨rfl, rfl⟩)
  unfold f_X8_learner at h
  refine g_iload_n C 1 1 dX8_learner_0 rfl rfl ?_
  refine g_iconst C 2 (0 : Int32) dX8_learner_1 rfl rfl ?_
  refine g_bipush C 4 (9 : Int32) dX8_learner_2 rfl rfl ?_
  refine bnd h (fun x1 e1 h => ?_)
  refine g_callSr C 7 [] [.int x1] (ct_X8_bound L v1 (0 : Int32) (9 : Int32) x1 e1) kX8_bound kvX8_bound wl_X8_70 [] rfl rfl rfl rfl rfl (Nat.le_of_ble_eq_true rfl) ⟨Nat.le_of_ble_eq_true rfl, Nat.le_of_ble_eq_true rfl⟩ ⟨Nat.zero_le _, Nat.zero_le _⟩ dX8_learner_4 rfl ?_
  refine g_istore_n C 8 2 [(2, .int x1), (0, .ref o), (1, .int v1)] dX8_learner_7 rfl rfl 3 hNL (by decide) rfl ?_
  refine g_iload_n C 9 0 dX8_learner_8 rfl rfl ?_
  refine g_if_ne C 23 12 dX8_learner_9 (by decide) rfl (fun c => ?_) (fun c => ?_)
  · have h := ifF c h
    refine g_lv (lv' := [(0, .ref o), (1, .int v1), (2, .int x1)]) [1, 2, 0] rfl ?_
    exact J_23 _ _ _ h
  · have h := ifT c h
    refine g_aload_n C 13 1 dX8_learner_12 rfl rfl ?_
    refine g_get (v := .int (S.1 9)) C 16 8 0 9 hin_8 rfl rfl (by decide) wf_X8_67 rfl dX8_learner_13 rfl ?_
    refine g_iconst C 17 (5 : Int32) dX8_learner_16 rfl rfl ?_
    refine g_icmp_ne C 23 20 dX8_learner_17 (by decide) rfl (fun c => ?_) (fun c => ?_)
    · have h := ifF c h
      refine g_lv (lv' := [(0, .ref o), (1, .int v1), (2, .int x1)]) [1, 2, 0] rfl ?_
      exact J_23 _ _ _ h
    · have h := ifT c h
      refine g_bipush C 22 (-6 : Int32) dX8_learner_20 rfl rfl ?_
      refine g_istore_n C 23 2 [(2, .int (-6 : Int32)), (0, .ref o), (1, .int v1)] dX8_learner_22 rfl rfl 3 hNL (by decide) rfl ?_
      refine g_lv (lv' := [(0, .ref o), (1, .int v1), (2, .int (-6 : Int32))]) [1, 2, 0] rfl ?_
      exact J_23 _ _ _ h
set_option maxHeartbeats 4000000 in
set_option maxRecDepth 100000 in
theorem ct_X8_tests (L : LL) (o : Nat) (u : Nat → Nat) (S : OS) (v1 : Int32) (v2 : Int32) (x : (Int32 × OS)) (h : f_X8_tests S v1 v2 = some x) : Ct L yX8_tests cX8_tests 4 (some .int) (rmk 6 0 0 142) 0 0 [.ref o, .int v1, .int v2] (cells8 L o u S) (Pv (some (.int x.1)) (cells8 L o u x.2)) := by
  refine g_enter (lv := [(0, .ref o), (1, .int v1), (2, .int v2)]) kX8_tests rfl rfl (Nat.le_of_ble_eq_true rfl) (fun Γ C E hNL => ?_)
  have J_44 : ∀ (v1 : Int32) (v2 : Int32) (s0 : Int32) (S : OS), j_X8_tests_44   v1 v2 s0 S = some x → G L Γ 0 0 (cells8 L o u S) 44 [(0, .ref o), (1, .int v1), (2, .int v2)] [.int s0] := by
    intro v1 v2 s0 S h
    unfold j_X8_tests_44 at h
    refine g_istore_n C 45 3 [(3, .int s0), (0, .ref o), (1, .int v1), (2, .int v2)] dX8_tests_44 rfl rfl 4 hNL (by decide) rfl ?_
    refine g_aload_n C 46 1 dX8_tests_45 rfl rfl ?_
    refine g_get (v := .ref (u 6)) C 49 8 0 6 hin_8 rfl rfl (by decide) wf_X8_28 rfl dX8_tests_46 rfl ?_
    refine g_iload_n C 50 2 dX8_tests_49 rfl rfl ?_
    refine g_dup2 C 51 dX8_tests_50 rfl rfl rfl ?_
    refine grdE h (fun hb h => ?_)
    refine g_iald (f := (S.2 6)) C 52 7 rfl hb dX8_tests_51 rfl ?_
    refine g_aload_n C 53 1 dX8_tests_52 rfl rfl ?_
    refine g_get (v := .ref (u 4)) C 56 8 0 4 hin_8 rfl rfl (by decide) wf_X8_22 rfl dX8_tests_53 rfl ?_
    refine g_iload_n C 57 3 dX8_tests_56 rfl rfl ?_
    refine grdE h (fun hb h => ?_)
    refine g_iald (f := (S.2 4)) C 58 5 rfl hb dX8_tests_57 rfl ?_
    refine g_ior C 59 dX8_tests_58 rfl ?_
    refine grdE h (fun hb h => ?_)
    refine g_iast (f := (S.2 6)) (w' := (cells8 L o u (sa S 6 (upd (S.2 6) (v1).toNatClampNeg (((S.2 6) (v1).toNatClampNeg) ||| ((S.2 4) (v2).toNatClampNeg)))))) C 60 7 rfl hb dX8_tests_59 rfl rfl ?_
    refine g_iload_n C 61 0 dX8_tests_60 rfl rfl ?_
    exact g_iret (st := []) C E dX8_tests_61 (by obtain rfl := Option.some.inj h; exact ⟨rfl, rfl⟩)
  unfold f_X8_tests at h
  refine g_aload_n C 1 0 dX8_tests_0 rfl rfl ?_
  refine g_iload_n C 2 1 dX8_tests_1 rfl rfl ?_
  refine bnd h (fun x1 e1 h => ?_)
  refine g_callVs (w' := (cells8 L o u S)) C 5 [] [.int x1] (ct_X8_isLearner L o u S v1 x1 e1) kX8_isLearner kvX8_isLearner wl_X8_114 8 0 rfl rfl rfl rfl rfl rfl rfl (Nat.le_of_ble_eq_true rfl) ⟨Nat.le_of_ble_eq_true rfl, Nat.le_of_ble_eq_true rfl⟩ ⟨Nat.zero_le _, Nat.zero_le _⟩ dX8_tests_2 rfl ?_
  refine g_if_eq C 16 8 dX8_tests_5 (by decide) rfl (fun c => ?_) (fun c => ?_)
  · have h := ifT c h
    refine g_aload_n C 17 0 dX8_tests_16 rfl rfl ?_
    refine g_iconst C 18 (-1 : Int32) dX8_tests_17 rfl rfl ?_
    refine bnd h (fun x2 e2 h => ?_)
    refine g_callVs (w' := (cells8 L o u x2.2)) C 21 [] [.int x2.1] (ct_X8_no L o u S (-1 : Int32) x2 e2) kX8_no kvX8_no wl_X8_77 8 0 rfl rfl rfl rfl rfl rfl rfl (Nat.le_of_ble_eq_true rfl) ⟨Nat.le_of_ble_eq_true rfl, Nat.le_of_ble_eq_true rfl⟩ ⟨Nat.zero_le _, Nat.zero_le _⟩ dX8_tests_18 rfl ?_
    exact g_iret (st := []) C E dX8_tests_21 (by obtain rfl := Option.some.inj h; exact ⟨rfl, rfl⟩)
  · have h := ifF c h
    refine g_aload_n C 9 0 dX8_tests_8 rfl rfl ?_
    refine g_iload_n C 10 2 dX8_tests_9 rfl rfl ?_
    refine bnd h (fun x3 e3 h => ?_)
    refine g_callVs (w' := (cells8 L o u S)) C 13 [] [.int x3] (ct_X8_isWay L o u S v2 x3 e3) kX8_isWay kvX8_isWay wl_X8_120 8 0 rfl rfl rfl rfl rfl rfl rfl (Nat.le_of_ble_eq_true rfl) ⟨Nat.le_of_ble_eq_true rfl, Nat.le_of_ble_eq_true rfl⟩ ⟨Nat.zero_le _, Nat.zero_le _⟩ dX8_tests_10 rfl ?_
    refine g_if_ne C 22 16 dX8_tests_13 (by decide) rfl (fun c => ?_) (fun c => ?_)
    · have h := ifF c h
      refine g_aload_n C 23 0 dX8_tests_22 rfl rfl ?_
      refine bnd h (fun x4 e4 h => ?_)
      refine g_callVs (w' := (cells8 L o u x4)) C 26 [] [] (ct_X8_keepsBack L o u S x4 e4) kX8_keepsBack kvX8_keepsBack wl_X8_191 8 0 rfl rfl rfl rfl rfl rfl rfl (Nat.le_of_ble_eq_true rfl) ⟨Nat.le_of_ble_eq_true rfl, Nat.le_of_ble_eq_true rfl⟩ ⟨Nat.zero_le _, Nat.zero_le _⟩ dX8_tests_23 rfl ?_
      refine g_aload_n C 27 0 dX8_tests_26 rfl rfl ?_
      refine g_iload_n C 28 1 dX8_tests_27 rfl rfl ?_
      refine g_iload_n C 29 2 dX8_tests_28 rfl rfl ?_
      refine g_aload_n C 30 0 dX8_tests_29 rfl rfl ?_
      refine g_get (v := .int (x4.1 10)) C 33 8 0 10 hin_8 rfl rfl (by decide) wf_X8_52 rfl dX8_tests_30 rfl ?_
      refine bnd h (fun x5 e5 h => ?_)
      refine g_callVs (w' := (cells8 L o u x4)) C 36 [] [.int x5] (ct_X8_passesWay L o u x4 v1 v2 (x4.1 10) x5 e5) kX8_passesWay kvX8_passesWay wl_X8_185 8 0 rfl rfl rfl rfl rfl rfl rfl (Nat.le_of_ble_eq_true rfl) ⟨Nat.le_of_ble_eq_true rfl, Nat.le_of_ble_eq_true rfl⟩ ⟨Nat.zero_le _, Nat.zero_le _⟩ dX8_tests_33 rfl ?_
      refine g_if_eq C 43 39 dX8_tests_36 (by decide) rfl (fun c => ?_) (fun c => ?_)
      · have h := ifT c h
        refine g_iconst C 44 (0 : Int32) dX8_tests_43 rfl rfl ?_
        exact J_44 _ _ _ _ h
      · have h := ifF c h
        refine g_iconst C 40 (1 : Int32) dX8_tests_39 rfl rfl ?_
        refine g_goto C 44 dX8_tests_40 (by decide) ?_
        exact J_44 _ _ _ _ h
    · have h := ifT c h
      refine g_aload_n C 17 0 dX8_tests_16 rfl rfl ?_
      refine g_iconst C 18 (-1 : Int32) dX8_tests_17 rfl rfl ?_
      refine bnd h (fun x6 e6 h => ?_)
      refine g_callVs (w' := (cells8 L o u x6.2)) C 21 [] [.int x6.1] (ct_X8_no L o u S (-1 : Int32) x6 e6) kX8_no kvX8_no wl_X8_77 8 0 rfl rfl rfl rfl rfl rfl rfl (Nat.le_of_ble_eq_true rfl) ⟨Nat.le_of_ble_eq_true rfl, Nat.le_of_ble_eq_true rfl⟩ ⟨Nat.zero_le _, Nat.zero_le _⟩ dX8_tests_18 rfl ?_
      exact g_iret (st := []) C E dX8_tests_21 (by obtain rfl := Option.some.inj h; exact ⟨rfl, rfl⟩)
set_option maxHeartbeats 4000000 in
set_option maxRecDepth 100000 in
theorem ct_X8_knows (L : LL) (o : Nat) (u : Nat → Nat) (S : OS) (v1 : Int32) (v2 : Int32) (x : (Int32 × OS)) (h : f_X8_knows S v1 v2 = some x) : Ct L yX8_knows cX8_knows 3 (some .int) (rmk 3 0 0 65) 0 0 [.ref o, .int v1, .int v2] (cells8 L o u S) (Pv (some (.int x.1)) (cells8 L o u x.2)) := by
  refine g_enter (lv := [(0, .ref o), (1, .int v1), (2, .int v2)]) kX8_knows rfl rfl (Nat.le_of_ble_eq_true rfl) (fun Γ C E hNL => ?_)
  unfold f_X8_knows at h
  refine g_aload_n C 1 0 dX8_knows_0 rfl rfl ?_
  refine g_iload_n C 2 1 dX8_knows_1 rfl rfl ?_
  refine bnd h (fun x1 e1 h => ?_)
  refine g_callVs (w' := (cells8 L o u S)) C 5 [] [.int x1] (ct_X8_isLearner L o u S v1 x1 e1) kX8_isLearner kvX8_isLearner wl_X8_114 8 0 rfl rfl rfl rfl rfl rfl rfl (Nat.le_of_ble_eq_true rfl) ⟨Nat.le_of_ble_eq_true rfl, Nat.le_of_ble_eq_true rfl⟩ ⟨Nat.zero_le _, Nat.zero_le _⟩ dX8_knows_2 rfl ?_
  refine g_if_eq C 16 8 dX8_knows_5 (by decide) rfl (fun c => ?_) (fun c => ?_)
  · have h := ifT c h
    refine g_aload_n C 17 0 dX8_knows_16 rfl rfl ?_
    refine g_iconst C 18 (-1 : Int32) dX8_knows_17 rfl rfl ?_
    refine bnd h (fun x2 e2 h => ?_)
    refine g_callVs (w' := (cells8 L o u x2.2)) C 21 [] [.int x2.1] (ct_X8_no L o u S (-1 : Int32) x2 e2) kX8_no kvX8_no wl_X8_77 8 0 rfl rfl rfl rfl rfl rfl rfl (Nat.le_of_ble_eq_true rfl) ⟨Nat.le_of_ble_eq_true rfl, Nat.le_of_ble_eq_true rfl⟩ ⟨Nat.zero_le _, Nat.zero_le _⟩ dX8_knows_18 rfl ?_
    exact g_iret (st := []) C E dX8_knows_21 (by obtain rfl := Option.some.inj h; exact ⟨rfl, rfl⟩)
  · have h := ifF c h
    refine g_aload_n C 9 0 dX8_knows_8 rfl rfl ?_
    refine g_iload_n C 10 2 dX8_knows_9 rfl rfl ?_
    refine bnd h (fun x3 e3 h => ?_)
    refine g_callVs (w' := (cells8 L o u S)) C 13 [] [.int x3] (ct_X8_isStreet L o u S v2 x3 e3) kX8_isStreet kvX8_isStreet wl_X8_117 8 0 rfl rfl rfl rfl rfl rfl rfl (Nat.le_of_ble_eq_true rfl) ⟨Nat.le_of_ble_eq_true rfl, Nat.le_of_ble_eq_true rfl⟩ ⟨Nat.zero_le _, Nat.zero_le _⟩ dX8_knows_10 rfl ?_
    refine g_if_ne C 22 16 dX8_knows_13 (by decide) rfl (fun c => ?_) (fun c => ?_)
    · have h := ifF c h
      refine g_aload_n C 23 0 dX8_knows_22 rfl rfl ?_
      refine bnd h (fun x4 e4 h => ?_)
      refine g_callVs (w' := (cells8 L o u x4)) C 26 [] [] (ct_X8_keepsBack L o u S x4 e4) kX8_keepsBack kvX8_keepsBack wl_X8_191 8 0 rfl rfl rfl rfl rfl rfl rfl (Nat.le_of_ble_eq_true rfl) ⟨Nat.le_of_ble_eq_true rfl, Nat.le_of_ble_eq_true rfl⟩ ⟨Nat.zero_le _, Nat.zero_le _⟩ dX8_knows_23 rfl ?_
      refine g_aload_n C 27 0 dX8_knows_26 rfl rfl ?_
      refine g_get (v := .ref (u 6)) C 30 8 0 6 hin_8 rfl rfl (by decide) wf_X8_28 rfl dX8_knows_27 rfl ?_
      refine g_iload_n C 31 1 dX8_knows_30 rfl rfl ?_
      refine g_dup2 C 32 dX8_knows_31 rfl rfl rfl ?_
      refine grdE h (fun hb h => ?_)
      refine g_iald (f := (x4.2 6)) C 33 7 rfl hb dX8_knows_32 rfl ?_
      refine g_iconst C 34 (1 : Int32) dX8_knows_33 rfl rfl ?_
      refine g_iload_n C 35 2 dX8_knows_34 rfl rfl ?_
      refine g_ishl C 36 dX8_knows_35 rfl ?_
      refine g_ixor C 37 dX8_knows_36 rfl ?_
      refine grdE h (fun hb h => ?_)
      refine g_iast (f := (x4.2 6)) (w' := (cells8 L o u (sa x4 6 (upd (x4.2 6) (v1).toNatClampNeg (((x4.2 6) (v1).toNatClampNeg) ^^^ ((1 : Int32) <<< (v2 &&& 31))))))) C 38 7 rfl hb dX8_knows_37 rfl rfl ?_
      refine g_aload_n C 39 0 dX8_knows_38 rfl rfl ?_
      refine g_get (v := .ref (u 6)) C 42 8 0 6 hin_8 rfl rfl (by decide) wf_X8_28 rfl dX8_knows_39 rfl ?_
      refine g_iload_n C 43 1 dX8_knows_42 rfl rfl ?_
      refine grdE h (fun hb h => ?_)
      refine g_iald (f := (upd (x4.2 6) (v1).toNatClampNeg (((x4.2 6) (v1).toNatClampNeg) ^^^ ((1 : Int32) <<< (v2 &&& 31))))) C 44 7 rfl hb dX8_knows_43 rfl ?_
      refine g_iload_n C 45 2 dX8_knows_44 rfl rfl ?_
      refine g_ishr C 46 dX8_knows_45 rfl ?_
      refine g_iconst C 47 (1 : Int32) dX8_knows_46 rfl rfl ?_
      refine g_iand C 48 dX8_knows_47 rfl ?_
      exact g_iret (st := []) C E dX8_knows_48 (by obtain rfl := Option.some.inj h; exact ⟨rfl, rfl⟩)
    · have h := ifT c h
      refine g_aload_n C 17 0 dX8_knows_16 rfl rfl ?_
      refine g_iconst C 18 (-1 : Int32) dX8_knows_17 rfl rfl ?_
      refine bnd h (fun x5 e5 h => ?_)
      refine g_callVs (w' := (cells8 L o u x5.2)) C 21 [] [.int x5.1] (ct_X8_no L o u S (-1 : Int32) x5 e5) kX8_no kvX8_no wl_X8_77 8 0 rfl rfl rfl rfl rfl rfl rfl (Nat.le_of_ble_eq_true rfl) ⟨Nat.le_of_ble_eq_true rfl, Nat.le_of_ble_eq_true rfl⟩ ⟨Nat.zero_le _, Nat.zero_le _⟩ dX8_knows_18 rfl ?_
      exact g_iret (st := []) C E dX8_knows_21 (by obtain rfl := Option.some.inj h; exact ⟨rfl, rfl⟩)
set_option maxHeartbeats 4000000 in
set_option maxRecDepth 100000 in
theorem ct_X8_sets (L : LL) (o : Nat) (u : Nat → Nat) (S : OS) (v1 : Int32) (v2 : Int32) (x : (Int32 × OS)) (h : f_X8_sets S v1 v2 = some x) : Ct L yX8_sets cX8_sets 5 (some .int) (rmk 3 0 0 65) 0 0 [.ref o, .int v1, .int v2] (cells8 L o u S) (Pv (some (.int x.1)) (cells8 L o u x.2)) := by
  refine g_enter (lv := [(0, .ref o), (1, .int v1), (2, .int v2)]) kX8_sets rfl rfl (Nat.le_of_ble_eq_true rfl) (fun Γ C E hNL => ?_)
  have J_60 : ∀ (v1 : Int32) (v2 : Int32) (s0 : Int32) (S : OS), j_X8_sets_60   v1 v2 s0 S = some x → G L Γ 0 0 (cells8 L o u S) 60 [(0, .ref o), (1, .int v1), (2, .int v2)] [.int s0] := by
    intro v1 v2 s0 S h
    unfold j_X8_sets_60 at h
    refine g_istore C 62 4 [(4, .int s0), (0, .ref o), (1, .int v1), (2, .int v2)] dX8_sets_60 rfl 5 hNL (by decide) rfl ?_
    refine g_iload_n C 63 2 dX8_sets_62 rfl rfl ?_
    refine g_if_ne C 74 66 dX8_sets_63 (by decide) rfl (fun c => ?_) (fun c => ?_)
    · have h := ifF c h
      refine g_aload_n C 75 1 dX8_sets_74 rfl rfl ?_
      refine g_iload_n C 76 3 dX8_sets_75 rfl rfl ?_
      refine g_put (w' := (cells8 L o u (su S 11 v2))) C 79 8 0 11 hin_8 tyX8 tyX8_ok nmX8 rfl rfl (by decide) wf_X8_56 rfl rfl rfl (Nat.le_of_ble_eq_true rfl) dX8_sets_76 rfl rfl ?_
      refine g_iload C 81 0 dX8_sets_79 rfl rfl ?_
      exact g_iret (st := []) C E dX8_sets_81 (by obtain rfl := Option.some.inj h; exact ⟨rfl, rfl⟩)
    · have h := ifT c h
      refine g_aload_n C 67 1 dX8_sets_66 rfl rfl ?_
      refine g_iload_n C 68 3 dX8_sets_67 rfl rfl ?_
      refine g_put (w' := (cells8 L o u (su S 10 v2))) C 71 8 0 10 hin_8 tyX8 tyX8_ok nmX8 rfl rfl (by decide) wf_X8_52 rfl rfl rfl (Nat.le_of_ble_eq_true rfl) dX8_sets_68 rfl rfl ?_
      refine g_goto C 79 dX8_sets_71 (by decide) ?_
      refine g_iload C 81 0 dX8_sets_79 rfl rfl ?_
      exact g_iret (st := []) C E dX8_sets_81 (by obtain rfl := Option.some.inj h; exact ⟨rfl, rfl⟩)
  have J_30 : ∀ (v1 : Int32) (v2 : Int32) (s0 : Int32) (S : OS), j_X8_sets_30   v1 v2 s0 S = some x → G L Γ 0 0 (cells8 L o u S) 30 [(0, .ref o), (1, .int v1), (2, .int v2)] [.int s0] := by
    intro v1 v2 s0 S h
    unfold j_X8_sets_30 at h
    refine g_istore_n C 31 3 [(3, .int s0), (0, .ref o), (1, .int v1), (2, .int v2)] dX8_sets_30 rfl rfl 5 hNL (by decide) rfl ?_
    refine g_iload_n C 32 0 dX8_sets_31 rfl rfl ?_
    refine g_if_eq C 41 35 dX8_sets_32 (by decide) rfl (fun c => ?_) (fun c => ?_)
    · have h := ifT c h
      refine g_aload_n C 42 1 dX8_sets_41 rfl rfl ?_
      refine bnd h (fun x3 e3 h => ?_)
      refine g_callVs (w' := (cells8 L o u x3)) C 45 [] [] (ct_X8_keepsBack L o u S x3 e3) kX8_keepsBack kvX8_keepsBack wl_X8_191 8 0 rfl rfl rfl rfl rfl rfl rfl (Nat.le_of_ble_eq_true rfl) ⟨Nat.le_of_ble_eq_true rfl, Nat.le_of_ble_eq_true rfl⟩ ⟨Nat.zero_le _, Nat.zero_le _⟩ dX8_sets_42 rfl ?_
      refine g_iload_n C 46 2 dX8_sets_45 rfl rfl ?_
      refine g_if_ne C 56 49 dX8_sets_46 (by decide) rfl (fun c => ?_) (fun c => ?_)
      · have h := ifF c h
        refine g_aload_n C 57 1 dX8_sets_56 rfl rfl ?_
        refine g_get (v := .int (x3.1 11)) C 60 8 0 11 hin_8 rfl rfl (by decide) wf_X8_56 rfl dX8_sets_57 rfl ?_
        refine g_lv (lv' := [(0, .ref o), (1, .int v1), (2, .int v2)]) [1, 2, 3] rfl ?_
        exact J_60 _ _ _ _ h
      · have h := ifT c h
        refine g_aload_n C 50 1 dX8_sets_49 rfl rfl ?_
        refine g_get (v := .int (x3.1 10)) C 53 8 0 10 hin_8 rfl rfl (by decide) wf_X8_52 rfl dX8_sets_50 rfl ?_
        refine g_goto C 60 dX8_sets_53 (by decide) ?_
        refine g_lv (lv' := [(0, .ref o), (1, .int v1), (2, .int v2)]) [1, 2, 3] rfl ?_
        exact J_60 _ _ _ _ h
    · have h := ifF c h
      refine g_aload_n C 36 1 dX8_sets_35 rfl rfl ?_
      refine g_iload_n C 37 0 dX8_sets_36 rfl rfl ?_
      refine bnd h (fun x4 e4 h => ?_)
      refine g_callVs (w' := (cells8 L o u x4.2)) C 40 [] [.int x4.1] (ct_X8_no L o u S s0 x4 e4) kX8_no kvX8_no wl_X8_77 8 0 rfl rfl rfl rfl rfl rfl rfl (Nat.le_of_ble_eq_true rfl) ⟨Nat.le_of_ble_eq_true rfl, Nat.le_of_ble_eq_true rfl⟩ ⟨Nat.zero_le _, Nat.zero_le _⟩ dX8_sets_37 rfl ?_
      exact g_iret (st := []) C E dX8_sets_40 (by obtain rfl := Option.some.inj h; exact ⟨rfl, rfl⟩)
  have J_27 : ∀ (v1 : Int32) (v2 : Int32) (s0 : Int32) (s1 : Int32) (s2 : Int32) (S : OS), j_X8_sets_27   v1 v2 s0 s1 s2 S = some x → G L Γ 0 0 (cells8 L o u S) 27 [(0, .ref o), (1, .int v1), (2, .int v2)] [.int s0, .int s1, .int s2] := by
    intro v1 v2 s0 s1 s2 S h
    unfold j_X8_sets_27 at h
    refine bnd h (fun x2 e2 h => ?_)
    refine g_callSr C 30 [] [.int x2] (ct_X8_bound L s2 s1 s0 x2 e2) kX8_bound kvX8_bound wl_X8_70 [] rfl rfl rfl rfl rfl (Nat.le_of_ble_eq_true rfl) ⟨Nat.le_of_ble_eq_true rfl, Nat.le_of_ble_eq_true rfl⟩ ⟨Nat.zero_le _, Nat.zero_le _⟩ dX8_sets_27 rfl ?_
    exact J_30 _ _ _ _ h
  unfold f_X8_sets at h
  refine g_iload_n C 1 1 dX8_sets_0 rfl rfl ?_
  refine g_iconst C 2 (0 : Int32) dX8_sets_1 rfl rfl ?_
  refine g_iconst C 3 (1 : Int32) dX8_sets_2 rfl rfl ?_
  refine bnd h (fun x1 e1 h => ?_)
  refine g_callSr C 6 [] [.int x1] (ct_X8_isIn L v1 (0 : Int32) (1 : Int32) x1 e1) kX8_isIn kvX8_isIn wl_X8_88 [] rfl rfl rfl rfl rfl (Nat.le_of_ble_eq_true rfl) ⟨Nat.le_of_ble_eq_true rfl, Nat.le_of_ble_eq_true rfl⟩ ⟨Nat.zero_le _, Nat.zero_le _⟩ dX8_sets_3 rfl ?_
  refine g_if_ne C 14 9 dX8_sets_6 (by decide) rfl (fun c => ?_) (fun c => ?_)
  · have h := ifF c h
    refine g_iload_n C 15 2 dX8_sets_14 rfl rfl ?_
    refine g_iconst C 16 (0 : Int32) dX8_sets_15 rfl rfl ?_
    refine g_iload_n C 17 1 dX8_sets_16 rfl rfl ?_
    refine g_if_ne C 25 20 dX8_sets_17 (by decide) rfl (fun c => ?_) (fun c => ?_)
    · have h := ifF c h
      refine g_bipush C 27 (99 : Int32) dX8_sets_25 rfl rfl ?_
      exact J_27 _ _ _ _ _ _ h
    · have h := ifT c h
      refine g_bipush C 22 (23 : Int32) dX8_sets_20 rfl rfl ?_
      refine g_goto C 27 dX8_sets_22 (by decide) ?_
      exact J_27 _ _ _ _ _ _ h
  · have h := ifT c h
    refine g_bipush C 11 (-2 : Int32) dX8_sets_9 rfl rfl ?_
    refine g_goto C 30 dX8_sets_11 (by decide) ?_
    exact J_30 _ _ _ _ h
set_option maxHeartbeats 4000000 in
set_option maxRecDepth 100000 in
theorem ct_X8_day (L : LL) (o : Nat) (u : Nat → Nat) (S : OS) (x : (Int32 × OS)) (h : f_X8_day S = some x) : Ct L yX8_day cX8_day 1 (some .int) (rmk 3 0 0 65) 0 0 [.ref o] (cells8 L o u S) (Pv (some (.int x.1)) (cells8 L o u x.2)) := by
  refine g_enter (lv := [(0, .ref o)]) kX8_day rfl rfl (Nat.le_of_ble_eq_true rfl) (fun Γ C E hNL => ?_)
  unfold f_X8_day at h
  refine g_aload_n C 1 0 dX8_day_0 rfl rfl ?_
  refine g_get (v := .int (S.1 12)) C 4 8 0 12 hin_8 rfl rfl (by decide) wf_X8_129 rfl dX8_day_1 rfl ?_
  refine g_sipush C 7 (999 : Int32) dX8_day_4 rfl rfl ?_
  refine g_icmp_ne C 17 10 dX8_day_7 (by decide) rfl (fun c => ?_) (fun c => ?_)
  · have h := ifF c h
    refine g_aload_n C 18 0 dX8_day_17 rfl rfl ?_
    refine bnd h (fun x1 e1 h => ?_)
    refine g_callVs (w' := (cells8 L o u x1)) C 21 [] [] (ct_X8_keepsBack L o u S x1 e1) kX8_keepsBack kvX8_keepsBack wl_X8_191 8 0 rfl rfl rfl rfl rfl rfl rfl (Nat.le_of_ble_eq_true rfl) ⟨Nat.le_of_ble_eq_true rfl, Nat.le_of_ble_eq_true rfl⟩ ⟨Nat.zero_le _, Nat.zero_le _⟩ dX8_day_18 rfl ?_
    refine g_aload_n C 22 0 dX8_day_21 rfl rfl ?_
    refine bnd h (fun x2 e2 h => ?_)
    refine g_callVs (w' := (cells8 L o u x2)) C 25 [] [] (ct_X8_goesDay L o u x1 x2 e2) kX8_goesDay kvX8_goesDay wl_X8_132 8 0 rfl rfl rfl rfl rfl rfl rfl (Nat.le_of_ble_eq_true rfl) ⟨Nat.le_of_ble_eq_true rfl, Nat.le_of_ble_eq_true rfl⟩ ⟨Nat.zero_le _, Nat.zero_le _⟩ dX8_day_22 rfl ?_
    refine g_aload_n C 26 0 dX8_day_25 rfl rfl ?_
    refine g_get (v := .int (x2.1 12)) C 29 8 0 12 hin_8 rfl rfl (by decide) wf_X8_129 rfl dX8_day_26 rfl ?_
    exact g_iret (st := []) C E dX8_day_29 (by obtain rfl := Option.some.inj h; exact ⟨rfl, rfl⟩)
  · have h := ifT c h
    refine g_aload_n C 11 0 dX8_day_10 rfl rfl ?_
    refine g_bipush C 13 (-6 : Int32) dX8_day_11 rfl rfl ?_
    refine bnd h (fun x3 e3 h => ?_)
    refine g_callVs (w' := (cells8 L o u x3.2)) C 16 [] [.int x3.1] (ct_X8_no L o u S (-6 : Int32) x3 e3) kX8_no kvX8_no wl_X8_77 8 0 rfl rfl rfl rfl rfl rfl rfl (Nat.le_of_ble_eq_true rfl) ⟨Nat.le_of_ble_eq_true rfl, Nat.le_of_ble_eq_true rfl⟩ ⟨Nat.zero_le _, Nat.zero_le _⟩ dX8_day_13 rfl ?_
    exact g_iret (st := []) C E dX8_day_16 (by obtain rfl := Option.some.inj h; exact ⟨rfl, rfl⟩)
set_option maxHeartbeats 4000000 in
set_option maxRecDepth 100000 in
theorem ct_X8_minutesOf (L : LL) (o : Nat) (u : Nat → Nat) (S : OS) (v1 : Int32) (x : Int32) (h : f_X8_minutesOf S v1 = some x) : Ct L yX8_minutesOf cX8_minutesOf 4 (some .int) (rmk 1 0 0 21) 0 0 [.ref o, .int v1] (cells8 L o u S) (Pv (some (.int x)) (cells8 L o u S)) := by
  refine g_enter (lv := [(0, .ref o), (1, .int v1)]) kX8_minutesOf rfl rfl (Nat.le_of_ble_eq_true rfl) (fun Γ C E hNL => ?_)
  have J_4 : ∀ (n : Nat) (v1 : Int32) (v2 : Int32) (v3 : Int32), Lp2 (b_X8_minutesOf_4 S  v1) n v2 v3 = some x → G L Γ 0 0 (cells8 L o u S) 4 [(0, .ref o), (1, .int v1), (2, .int v2), (3, .int v3)] [] := by
    intro n v1
    refine lp_ok2 (fun v2 v3 => G L Γ 0 0 (cells8 L o u S) 4 [(0, .ref o), (1, .int v1), (2, .int v2), (3, .int v3)] []) (fun k_4 hk_4 => ?_) n
    have J_31 : ∀ (v3 : Int32) (s0 : Int32) (s1 : Int32), j_X8_minutesOf_31 S k_4 v1 v3 s0 s1 = some x → G L Γ 0 0 (cells8 L o u S) 31 [(0, .ref o), (1, .int v1), (3, .int v3)] [.int s0, .int s1] := by
      intro v3 s0 s1 h
      unfold j_X8_minutesOf_31 at h
      refine g_iadd C 32 dX8_minutesOf_31 rfl ?_
      refine g_istore_n C 33 2 [(2, .int (s1 + s0)), (0, .ref o), (1, .int v1), (3, .int v3)] dX8_minutesOf_32 rfl rfl 4 hNL (by decide) rfl ?_
      refine g_iinc C 36 (1 : Int32) 3 [(3, .int (v3 + (1 : Int32))), (2, .int (s1 + s0)), (0, .ref o), (1, .int v1)] dX8_minutesOf_33 rfl rfl 4 hNL (by decide) rfl rfl ?_
      refine g_goto C 4 dX8_minutesOf_36 (by decide) ?_
      refine g_lv (lv' := [(0, .ref o), (1, .int v1), (2, .int (s1 + s0)), (3, .int (v3 + (1 : Int32)))]) [2, 3, 1, 0] rfl ?_
      exact hk_4 _ _ h
    intro v2 v3 h
    unfold b_X8_minutesOf_4 at h
    refine g_iload_n C 5 3 dX8_minutesOf_4 rfl rfl ?_
    refine g_aload_n C 6 0 dX8_minutesOf_5 rfl rfl ?_
    refine g_get (v := .int (S.1 7)) C 9 8 0 7 hin_8 rfl rfl (by decide) wf_X8_61 rfl dX8_minutesOf_6 rfl ?_
    refine g_icmp_ge C 39 12 dX8_minutesOf_9 (by decide) rfl (fun c => ?_) (fun c => ?_)
    · have h := ifT c h
      refine g_iload_n C 40 2 dX8_minutesOf_39 rfl rfl ?_
      exact g_iret (st := []) C E dX8_minutesOf_40 (by obtain rfl := Option.some.inj h; exact ⟨rfl, rfl⟩)
    · have h := ifF c h
      refine g_iload_n C 13 2 dX8_minutesOf_12 rfl rfl ?_
      refine g_iload_n C 14 1 dX8_minutesOf_13 rfl rfl ?_
      refine g_iload_n C 15 3 dX8_minutesOf_14 rfl rfl ?_
      refine bnd h (fun x1 e1 h => ?_)
      refine g_callSr C 18 [.int v2] [.int x1, .int v2] (ct_X8_has L v1 v3 x1 e1) kX8_has kvX8_has wl_X8_173 [] rfl rfl rfl rfl rfl (Nat.le_of_ble_eq_true rfl) ⟨Nat.le_of_ble_eq_true rfl, Nat.le_of_ble_eq_true rfl⟩ ⟨Nat.zero_le _, Nat.zero_le _⟩ dX8_minutesOf_15 rfl ?_
      refine g_if_eq C 30 21 dX8_minutesOf_18 (by decide) rfl (fun c => ?_) (fun c => ?_)
      · have h := ifT c h
        refine g_iconst C 31 (0 : Int32) dX8_minutesOf_30 rfl rfl ?_
        refine g_lv (lv' := [(0, .ref o), (1, .int v1), (3, .int v3)]) [0, 1, 3] rfl ?_
        exact J_31 _ _ _ h
      · have h := ifF c h
        refine g_aload_n C 22 0 dX8_minutesOf_21 rfl rfl ?_
        refine g_get (v := .ref (u 3)) C 25 8 0 3 hin_8 rfl rfl (by decide) wf_X8_19 rfl dX8_minutesOf_22 rfl ?_
        refine g_iload_n C 26 3 dX8_minutesOf_25 rfl rfl ?_
        refine grdE h (fun hb h => ?_)
        refine g_iald (f := (S.2 3)) C 27 4 rfl hb dX8_minutesOf_26 rfl ?_
        refine g_goto C 31 dX8_minutesOf_27 (by decide) ?_
        refine g_lv (lv' := [(0, .ref o), (1, .int v1), (3, .int v3)]) [0, 1, 3] rfl ?_
        exact J_31 _ _ _ h
  unfold f_X8_minutesOf at h
  refine g_iconst C 1 (0 : Int32) dX8_minutesOf_0 rfl rfl ?_
  refine g_istore_n C 2 2 [(2, .int (0 : Int32)), (0, .ref o), (1, .int v1)] dX8_minutesOf_1 rfl rfl 4 hNL (by decide) rfl ?_
  refine g_iconst C 3 (0 : Int32) dX8_minutesOf_2 rfl rfl ?_
  refine g_istore_n C 4 3 [(3, .int (0 : Int32)), (2, .int (0 : Int32)), (0, .ref o), (1, .int v1)] dX8_minutesOf_3 rfl rfl 4 hNL (by decide) rfl ?_
  refine g_lv (lv' := [(0, .ref o), (1, .int v1), (2, .int (0 : Int32)), (3, .int (0 : Int32))]) [2, 3, 1, 0] rfl ?_
  exact J_4 _ _ _ _ h
set_option maxHeartbeats 4000000 in
set_option maxRecDepth 100000 in
theorem ct_X8_hardOn (L : LL) (o : Nat) (u : Nat → Nat) (S : OS) (v1 : Int32) (v2 : Int32) (x : Int32) (h : f_X8_hardOn S v1 v2 = some x) : Ct L yX8_hardOn cX8_hardOn 5 (some .int) (rmk 2 0 0 46) 0 0 [.ref o, .int v1, .int v2] (cells8 L o u S) (Pv (some (.int x)) (cells8 L o u S)) := by
  refine g_enter (lv := [(0, .ref o), (1, .int v1), (2, .int v2)]) kX8_hardOn rfl rfl (Nat.le_of_ble_eq_true rfl) (fun Γ C E hNL => ?_)
  have J_5 : ∀ (n : Nat) (v1 : Int32) (v2 : Int32) (v3 : Int32) (v4 : Int32), Lp2 (b_X8_hardOn_5 S  v1 v2) n v3 v4 = some x → G L Γ 0 0 (cells8 L o u S) 5 [(0, .ref o), (1, .int v1), (2, .int v2), (3, .int v3), (4, .int v4)] [] := by
    intro n v1 v2
    refine lp_ok2 (fun v3 v4 => G L Γ 0 0 (cells8 L o u S) 5 [(0, .ref o), (1, .int v1), (2, .int v2), (3, .int v3), (4, .int v4)] []) (fun k_5 hk_5 => ?_) n
    have J_35 : ∀ (v4 : Int32) (s0 : Int32) (s1 : Int32), j_X8_hardOn_35 S k_5 v1 v2 v4 s0 s1 = some x → G L Γ 0 0 (cells8 L o u S) 35 [(0, .ref o), (1, .int v1), (2, .int v2), (4, .int v4)] [.int s0, .int s1] := by
      intro v4 s0 s1 h
      unfold j_X8_hardOn_35 at h
      refine g_iadd C 36 dX8_hardOn_35 rfl ?_
      refine g_istore_n C 37 3 [(3, .int (s1 + s0)), (0, .ref o), (1, .int v1), (2, .int v2), (4, .int v4)] dX8_hardOn_36 rfl rfl 5 hNL (by decide) rfl ?_
      refine g_iinc C 40 (1 : Int32) 4 [(4, .int (v4 + (1 : Int32))), (3, .int (s1 + s0)), (0, .ref o), (1, .int v1), (2, .int v2)] dX8_hardOn_37 rfl rfl 5 hNL (by decide) rfl rfl ?_
      refine g_goto C 5 dX8_hardOn_40 (by decide) ?_
      refine g_lv (lv' := [(0, .ref o), (1, .int v1), (2, .int v2), (3, .int (s1 + s0)), (4, .int (v4 + (1 : Int32)))]) [2, 3, 4, 1, 0] rfl ?_
      exact hk_5 _ _ h
    intro v3 v4 h
    unfold b_X8_hardOn_5 at h
    refine g_iload C 7 4 dX8_hardOn_5 rfl rfl ?_
    refine g_aload_n C 8 0 dX8_hardOn_7 rfl rfl ?_
    refine g_get (v := .int (S.1 7)) C 11 8 0 7 hin_8 rfl rfl (by decide) wf_X8_61 rfl dX8_hardOn_8 rfl ?_
    refine g_icmp_ge C 43 14 dX8_hardOn_11 (by decide) rfl (fun c => ?_) (fun c => ?_)
    · have h := ifT c h
      refine g_iload_n C 44 3 dX8_hardOn_43 rfl rfl ?_
      exact g_iret (st := []) C E dX8_hardOn_44 (by obtain rfl := Option.some.inj h; exact ⟨rfl, rfl⟩)
    · have h := ifF c h
      refine g_iload_n C 15 3 dX8_hardOn_14 rfl rfl ?_
      refine g_iload_n C 16 1 dX8_hardOn_15 rfl rfl ?_
      refine g_iload C 18 4 dX8_hardOn_16 rfl rfl ?_
      refine bnd h (fun x1 e1 h => ?_)
      refine g_callSr C 21 [.int v3] [.int x1, .int v3] (ct_X8_has L v1 v4 x1 e1) kX8_has kvX8_has wl_X8_173 [] rfl rfl rfl rfl rfl (Nat.le_of_ble_eq_true rfl) ⟨Nat.le_of_ble_eq_true rfl, Nat.le_of_ble_eq_true rfl⟩ ⟨Nat.zero_le _, Nat.zero_le _⟩ dX8_hardOn_18 rfl ?_
      refine g_if_eq C 34 24 dX8_hardOn_21 (by decide) rfl (fun c => ?_) (fun c => ?_)
      · have h := ifT c h
        refine g_iconst C 35 (0 : Int32) dX8_hardOn_34 rfl rfl ?_
        refine g_lv (lv' := [(0, .ref o), (1, .int v1), (2, .int v2), (4, .int v4)]) [0, 1, 2, 4] rfl ?_
        exact J_35 _ _ _ h
      · have h := ifF c h
        refine g_aload_n C 25 0 dX8_hardOn_24 rfl rfl ?_
        refine g_iload C 27 4 dX8_hardOn_25 rfl rfl ?_
        refine g_iload_n C 28 2 dX8_hardOn_27 rfl rfl ?_
        refine bnd h (fun x2 e2 h => ?_)
        refine g_callVs (w' := (cells8 L o u S)) C 31 [.int v3] [.int x2, .int v3] (ct_X8_hardOf L o u S v4 v2 x2 e2) kX8_hardOf kvX8_hardOf wl_X8_169 8 0 rfl rfl rfl rfl rfl rfl rfl (Nat.le_of_ble_eq_true rfl) ⟨Nat.le_of_ble_eq_true rfl, Nat.le_of_ble_eq_true rfl⟩ ⟨Nat.zero_le _, Nat.zero_le _⟩ dX8_hardOn_28 rfl ?_
        refine g_goto C 35 dX8_hardOn_31 (by decide) ?_
        refine g_lv (lv' := [(0, .ref o), (1, .int v1), (2, .int v2), (4, .int v4)]) [0, 1, 2, 4] rfl ?_
        exact J_35 _ _ _ h
  unfold f_X8_hardOn at h
  refine g_iconst C 1 (0 : Int32) dX8_hardOn_0 rfl rfl ?_
  refine g_istore_n C 2 3 [(3, .int (0 : Int32)), (0, .ref o), (1, .int v1), (2, .int v2)] dX8_hardOn_1 rfl rfl 5 hNL (by decide) rfl ?_
  refine g_iconst C 3 (0 : Int32) dX8_hardOn_2 rfl rfl ?_
  refine g_istore C 5 4 [(4, .int (0 : Int32)), (3, .int (0 : Int32)), (0, .ref o), (1, .int v1), (2, .int v2)] dX8_hardOn_3 rfl 5 hNL (by decide) rfl ?_
  refine g_lv (lv' := [(0, .ref o), (1, .int v1), (2, .int v2), (3, .int (0 : Int32)), (4, .int (0 : Int32))]) [2, 3, 4, 1, 0] rfl ?_
  exact J_5 _ _ _ _ _ h
set_option maxHeartbeats 4000000 in
set_option maxRecDepth 100000 in
theorem ct_X8_kindsOf (L : LL) (o : Nat) (u : Nat → Nat) (S : OS) (v1 : Int32) (x : Int32) (h : f_X8_kindsOf S v1 = some x) : Ct L yX8_kindsOf cX8_kindsOf 4 (some .int) (rmk 1 0 0 21) 0 0 [.ref o, .int v1] (cells8 L o u S) (Pv (some (.int x)) (cells8 L o u S)) := by
  refine g_enter (lv := [(0, .ref o), (1, .int v1)]) kX8_kindsOf rfl rfl (Nat.le_of_ble_eq_true rfl) (fun Γ C E hNL => ?_)
  have J_4 : ∀ (n : Nat) (v1 : Int32) (v2 : Int32) (v3 : Int32), Lp2 (b_X8_kindsOf_4 S  v1) n v2 v3 = some x → G L Γ 0 0 (cells8 L o u S) 4 [(0, .ref o), (1, .int v1), (2, .int v2), (3, .int v3)] [] := by
    intro n v1
    refine lp_ok2 (fun v2 v3 => G L Γ 0 0 (cells8 L o u S) 4 [(0, .ref o), (1, .int v1), (2, .int v2), (3, .int v3)] []) (fun k_4 hk_4 => ?_) n
    have J_33 : ∀ (v3 : Int32) (s0 : Int32) (s1 : Int32), j_X8_kindsOf_33 S k_4 v1 v3 s0 s1 = some x → G L Γ 0 0 (cells8 L o u S) 33 [(0, .ref o), (1, .int v1), (3, .int v3)] [.int s0, .int s1] := by
      intro v3 s0 s1 h
      unfold j_X8_kindsOf_33 at h
      refine g_ior C 34 dX8_kindsOf_33 rfl ?_
      refine g_istore_n C 35 2 [(2, .int (s1 ||| s0)), (0, .ref o), (1, .int v1), (3, .int v3)] dX8_kindsOf_34 rfl rfl 4 hNL (by decide) rfl ?_
      refine g_iinc C 38 (1 : Int32) 3 [(3, .int (v3 + (1 : Int32))), (2, .int (s1 ||| s0)), (0, .ref o), (1, .int v1)] dX8_kindsOf_35 rfl rfl 4 hNL (by decide) rfl rfl ?_
      refine g_goto C 4 dX8_kindsOf_38 (by decide) ?_
      refine g_lv (lv' := [(0, .ref o), (1, .int v1), (2, .int (s1 ||| s0)), (3, .int (v3 + (1 : Int32)))]) [2, 3, 1, 0] rfl ?_
      exact hk_4 _ _ h
    intro v2 v3 h
    unfold b_X8_kindsOf_4 at h
    refine g_iload_n C 5 3 dX8_kindsOf_4 rfl rfl ?_
    refine g_aload_n C 6 0 dX8_kindsOf_5 rfl rfl ?_
    refine g_get (v := .int (S.1 7)) C 9 8 0 7 hin_8 rfl rfl (by decide) wf_X8_61 rfl dX8_kindsOf_6 rfl ?_
    refine g_icmp_ge C 41 12 dX8_kindsOf_9 (by decide) rfl (fun c => ?_) (fun c => ?_)
    · have h := ifT c h
      refine g_iload_n C 42 2 dX8_kindsOf_41 rfl rfl ?_
      exact g_iret (st := []) C E dX8_kindsOf_42 (by obtain rfl := Option.some.inj h; exact ⟨rfl, rfl⟩)
    · have h := ifF c h
      refine g_iload_n C 13 2 dX8_kindsOf_12 rfl rfl ?_
      refine g_iload_n C 14 1 dX8_kindsOf_13 rfl rfl ?_
      refine g_iload_n C 15 3 dX8_kindsOf_14 rfl rfl ?_
      refine bnd h (fun x1 e1 h => ?_)
      refine g_callSr C 18 [.int v2] [.int x1, .int v2] (ct_X8_has L v1 v3 x1 e1) kX8_has kvX8_has wl_X8_173 [] rfl rfl rfl rfl rfl (Nat.le_of_ble_eq_true rfl) ⟨Nat.le_of_ble_eq_true rfl, Nat.le_of_ble_eq_true rfl⟩ ⟨Nat.zero_le _, Nat.zero_le _⟩ dX8_kindsOf_15 rfl ?_
      refine g_if_eq C 32 21 dX8_kindsOf_18 (by decide) rfl (fun c => ?_) (fun c => ?_)
      · have h := ifT c h
        refine g_iconst C 33 (0 : Int32) dX8_kindsOf_32 rfl rfl ?_
        refine g_lv (lv' := [(0, .ref o), (1, .int v1), (3, .int v3)]) [0, 1, 3] rfl ?_
        exact J_33 _ _ _ h
      · have h := ifF c h
        refine g_iconst C 22 (1 : Int32) dX8_kindsOf_21 rfl rfl ?_
        refine g_aload_n C 23 0 dX8_kindsOf_22 rfl rfl ?_
        refine g_get (v := .ref (u 1)) C 26 8 0 1 hin_8 rfl rfl (by decide) wf_X8_13 rfl dX8_kindsOf_23 rfl ?_
        refine g_iload_n C 27 3 dX8_kindsOf_26 rfl rfl ?_
        refine grdE h (fun hb h => ?_)
        refine g_iald (f := (S.2 1)) C 28 2 rfl hb dX8_kindsOf_27 rfl ?_
        refine g_ishl C 29 dX8_kindsOf_28 rfl ?_
        refine g_goto C 33 dX8_kindsOf_29 (by decide) ?_
        refine g_lv (lv' := [(0, .ref o), (1, .int v1), (3, .int v3)]) [0, 1, 3] rfl ?_
        exact J_33 _ _ _ h
  unfold f_X8_kindsOf at h
  refine g_iconst C 1 (0 : Int32) dX8_kindsOf_0 rfl rfl ?_
  refine g_istore_n C 2 2 [(2, .int (0 : Int32)), (0, .ref o), (1, .int v1)] dX8_kindsOf_1 rfl rfl 4 hNL (by decide) rfl ?_
  refine g_iconst C 3 (0 : Int32) dX8_kindsOf_2 rfl rfl ?_
  refine g_istore_n C 4 3 [(3, .int (0 : Int32)), (2, .int (0 : Int32)), (0, .ref o), (1, .int v1)] dX8_kindsOf_3 rfl rfl 4 hNL (by decide) rfl ?_
  refine g_lv (lv' := [(0, .ref o), (1, .int v1), (2, .int (0 : Int32)), (3, .int (0 : Int32))]) [2, 3, 1, 0] rfl ?_
  exact J_4 _ _ _ _ h
set_option maxHeartbeats 4000000 in
set_option maxRecDepth 100000 in
theorem ct_X8_wayOf (L : LL) (o : Nat) (u : Nat → Nat) (S : OS) (v1 : Int32) (v2 : Int32) (v3 : Int32) (x : (Int32 × OS)) (h : f_X8_wayOf S v1 v2 v3 = some x) : Ct L yX8_wayOf cX8_wayOf 4 (some .int) (rmk 3 0 0 70) 0 0 [.ref o, .int v1, .int v2, .int v3] (cells8 L o u S) (Pv (some (.int x.1)) (cells8 L o u x.2)) := by
  refine g_enter (lv := [(0, .ref o), (1, .int v1), (2, .int v2), (3, .int v3)]) kX8_wayOf rfl rfl (Nat.le_of_ble_eq_true rfl) (fun Γ C E hNL => ?_)
  unfold f_X8_wayOf at h
  refine g_aload_n C 1 0 dX8_wayOf_0 rfl rfl ?_
  refine g_iload_n C 2 1 dX8_wayOf_1 rfl rfl ?_
  refine bnd h (fun x1 e1 h => ?_)
  refine g_callVs (w' := (cells8 L o u S)) C 5 [] [.int x1] (ct_X8_isWay L o u S v1 x1 e1) kX8_isWay kvX8_isWay wl_X8_120 8 0 rfl rfl rfl rfl rfl rfl rfl (Nat.le_of_ble_eq_true rfl) ⟨Nat.le_of_ble_eq_true rfl, Nat.le_of_ble_eq_true rfl⟩ ⟨Nat.zero_le _, Nat.zero_le _⟩ dX8_wayOf_2 rfl ?_
  refine g_if_eq C 15 8 dX8_wayOf_5 (by decide) rfl (fun c => ?_) (fun c => ?_)
  · have h := ifT c h
    refine g_aload_n C 16 0 dX8_wayOf_15 rfl rfl ?_
    refine g_iconst C 17 (-1 : Int32) dX8_wayOf_16 rfl rfl ?_
    refine bnd h (fun x2 e2 h => ?_)
    refine g_callVs (w' := (cells8 L o u x2.2)) C 20 [] [.int x2.1] (ct_X8_no L o u S (-1 : Int32) x2 e2) kX8_no kvX8_no wl_X8_77 8 0 rfl rfl rfl rfl rfl rfl rfl (Nat.le_of_ble_eq_true rfl) ⟨Nat.le_of_ble_eq_true rfl, Nat.le_of_ble_eq_true rfl⟩ ⟨Nat.zero_le _, Nat.zero_le _⟩ dX8_wayOf_17 rfl ?_
    exact g_iret (st := []) C E dX8_wayOf_20 (by obtain rfl := Option.some.inj h; exact ⟨rfl, rfl⟩)
  · have h := ifF c h
    refine g_iload_n C 9 2 dX8_wayOf_8 rfl rfl ?_
    refine bnd h (fun x3 e3 h => ?_)
    refine g_callSr C 12 [] [.int x3] (ct_X8_isHour L v2 x3 e3) kX8_isHour kvX8_isHour wl_X8_126 [] rfl rfl rfl rfl rfl (Nat.le_of_ble_eq_true rfl) ⟨Nat.le_of_ble_eq_true rfl, Nat.le_of_ble_eq_true rfl⟩ ⟨Nat.zero_le _, Nat.zero_le _⟩ dX8_wayOf_9 rfl ?_
    refine g_if_ne C 21 15 dX8_wayOf_12 (by decide) rfl (fun c => ?_) (fun c => ?_)
    · have h := ifF c h
      refine g_iload_n C 22 3 dX8_wayOf_21 rfl rfl ?_
      by_cases c0 : v3 = (0 : Int32)
      · have h := ifT c0 h
        refine g_tabIn C 52 (30) dX8_wayOf_22 (by rw [c0]; decide) (by rw [c0]; decide) (by rw [c0]; rfl) (by decide) ?_
        refine g_aload_n C 53 0 dX8_wayOf_52 rfl rfl ?_
        refine g_get (v := .ref (u 4)) C 56 8 0 4 hin_8 rfl rfl (by decide) wf_X8_22 rfl dX8_wayOf_53 rfl ?_
        refine g_iload_n C 57 1 dX8_wayOf_56 rfl rfl ?_
        refine grdE h (fun hb h => ?_)
        refine g_iald (f := (S.2 4)) C 58 5 rfl hb dX8_wayOf_57 rfl ?_
        exact g_iret (st := []) C E dX8_wayOf_58 (by obtain rfl := Option.some.inj h; exact ⟨rfl, rfl⟩)
      have h := ifF c0 h
      by_cases c1 : v3 = (1 : Int32)
      · have h := ifT c1 h
        refine g_tabIn C 59 (37) dX8_wayOf_22 (by rw [c1]; decide) (by rw [c1]; decide) (by rw [c1]; rfl) (by decide) ?_
        refine g_aload_n C 60 0 dX8_wayOf_59 rfl rfl ?_
        refine g_aload_n C 61 0 dX8_wayOf_60 rfl rfl ?_
        refine g_get (v := .ref (u 4)) C 64 8 0 4 hin_8 rfl rfl (by decide) wf_X8_22 rfl dX8_wayOf_61 rfl ?_
        refine g_iload_n C 65 1 dX8_wayOf_64 rfl rfl ?_
        refine grdE h (fun hb h => ?_)
        refine g_iald (f := (S.2 4)) C 66 5 rfl hb dX8_wayOf_65 rfl ?_
        refine bnd h (fun x4 e4 h => ?_)
        refine g_callVs (w' := (cells8 L o u S)) C 69 [] [.int x4] (ct_X8_minutesOf L o u S ((S.2 4) (v1).toNatClampNeg) x4 e4) kX8_minutesOf kvX8_minutesOf wl_X8_194 8 0 rfl rfl rfl rfl rfl rfl rfl (Nat.le_of_ble_eq_true rfl) ⟨Nat.le_of_ble_eq_true rfl, Nat.le_of_ble_eq_true rfl⟩ ⟨Nat.zero_le _, Nat.zero_le _⟩ dX8_wayOf_66 rfl ?_
        exact g_iret (st := []) C E dX8_wayOf_69 (by obtain rfl := Option.some.inj h; exact ⟨rfl, rfl⟩)
      have h := ifF c1 h
      by_cases c2 : v3 = (2 : Int32)
      · have h := ifT c2 h
        refine g_tabIn C 70 (48) dX8_wayOf_22 (by rw [c2]; decide) (by rw [c2]; decide) (by rw [c2]; rfl) (by decide) ?_
        refine g_aload_n C 71 0 dX8_wayOf_70 rfl rfl ?_
        refine g_aload_n C 72 0 dX8_wayOf_71 rfl rfl ?_
        refine g_get (v := .ref (u 4)) C 75 8 0 4 hin_8 rfl rfl (by decide) wf_X8_22 rfl dX8_wayOf_72 rfl ?_
        refine g_iload_n C 76 1 dX8_wayOf_75 rfl rfl ?_
        refine grdE h (fun hb h => ?_)
        refine g_iald (f := (S.2 4)) C 77 5 rfl hb dX8_wayOf_76 rfl ?_
        refine g_iload_n C 78 2 dX8_wayOf_77 rfl rfl ?_
        refine bnd h (fun x5 e5 h => ?_)
        refine g_callVs (w' := (cells8 L o u S)) C 81 [] [.int x5] (ct_X8_hardOn L o u S ((S.2 4) (v1).toNatClampNeg) v2 x5 e5) kX8_hardOn kvX8_hardOn wl_X8_197 8 0 rfl rfl rfl rfl rfl rfl rfl (Nat.le_of_ble_eq_true rfl) ⟨Nat.le_of_ble_eq_true rfl, Nat.le_of_ble_eq_true rfl⟩ ⟨Nat.zero_le _, Nat.zero_le _⟩ dX8_wayOf_78 rfl ?_
        exact g_iret (st := []) C E dX8_wayOf_81 (by obtain rfl := Option.some.inj h; exact ⟨rfl, rfl⟩)
      have h := ifF c2 h
      by_cases c3 : v3 = (3 : Int32)
      · have h := ifT c3 h
        refine g_tabIn C 82 (60) dX8_wayOf_22 (by rw [c3]; decide) (by rw [c3]; decide) (by rw [c3]; rfl) (by decide) ?_
        refine g_aload_n C 83 0 dX8_wayOf_82 rfl rfl ?_
        refine g_aload_n C 84 0 dX8_wayOf_83 rfl rfl ?_
        refine g_get (v := .ref (u 4)) C 87 8 0 4 hin_8 rfl rfl (by decide) wf_X8_22 rfl dX8_wayOf_84 rfl ?_
        refine g_iload_n C 88 1 dX8_wayOf_87 rfl rfl ?_
        refine grdE h (fun hb h => ?_)
        refine g_iald (f := (S.2 4)) C 89 5 rfl hb dX8_wayOf_88 rfl ?_
        refine bnd h (fun x6 e6 h => ?_)
        refine g_callVs (w' := (cells8 L o u S)) C 92 [] [.int x6] (ct_X8_kindsOf L o u S ((S.2 4) (v1).toNatClampNeg) x6 e6) kX8_kindsOf kvX8_kindsOf wl_X8_200 8 0 rfl rfl rfl rfl rfl rfl rfl (Nat.le_of_ble_eq_true rfl) ⟨Nat.le_of_ble_eq_true rfl, Nat.le_of_ble_eq_true rfl⟩ ⟨Nat.zero_le _, Nat.zero_le _⟩ dX8_wayOf_89 rfl ?_
        exact g_iret (st := []) C E dX8_wayOf_92 (by obtain rfl := Option.some.inj h; exact ⟨rfl, rfl⟩)
      have h := ifF c3 h
      have t0 := ne_toInt c0 (show ((0 : Int32) : Int32).toInt = 0 by decide +kernel)
      have t1 := ne_toInt c1 (show ((1 : Int32) : Int32).toInt = 1 by decide +kernel)
      have t2 := ne_toInt c2 (show ((2 : Int32) : Int32).toInt = 2 by decide +kernel)
      have t3 := ne_toInt c3 (show ((3 : Int32) : Int32).toInt = 3 by decide +kernel)
      by_cases cr : (v3).toInt < 0 ∨ 3 < (v3).toInt
      · refine g_tabOut C 93 dX8_wayOf_22 cr (by decide) ?_
        refine g_aload_n C 94 0 dX8_wayOf_93 rfl rfl ?_
        refine g_bipush C 96 (-2 : Int32) dX8_wayOf_94 rfl rfl ?_
        refine bnd h (fun x7 e7 h => ?_)
        refine g_callVs (w' := (cells8 L o u x7.2)) C 99 [] [.int x7.1] (ct_X8_no L o u S (-2 : Int32) x7 e7) kX8_no kvX8_no wl_X8_77 8 0 rfl rfl rfl rfl rfl rfl rfl (Nat.le_of_ble_eq_true rfl) ⟨Nat.le_of_ble_eq_true rfl, Nat.le_of_ble_eq_true rfl⟩ ⟨Nat.zero_le _, Nat.zero_le _⟩ dX8_wayOf_96 rfl ?_
        exact g_iret (st := []) C E dX8_wayOf_99 (by obtain rfl := Option.some.inj h; exact ⟨rfl, rfl⟩)
      · exfalso; omega
    · have h := ifT c h
      refine g_aload_n C 16 0 dX8_wayOf_15 rfl rfl ?_
      refine g_iconst C 17 (-1 : Int32) dX8_wayOf_16 rfl rfl ?_
      refine bnd h (fun x8 e8 h => ?_)
      refine g_callVs (w' := (cells8 L o u x8.2)) C 20 [] [.int x8.1] (ct_X8_no L o u S (-1 : Int32) x8 e8) kX8_no kvX8_no wl_X8_77 8 0 rfl rfl rfl rfl rfl rfl rfl (Nat.le_of_ble_eq_true rfl) ⟨Nat.le_of_ble_eq_true rfl, Nat.le_of_ble_eq_true rfl⟩ ⟨Nat.zero_le _, Nat.zero_le _⟩ dX8_wayOf_17 rfl ?_
      exact g_iret (st := []) C E dX8_wayOf_20 (by obtain rfl := Option.some.inj h; exact ⟨rfl, rfl⟩)
set_option maxHeartbeats 4000000 in
set_option maxRecDepth 100000 in
theorem ct_X8_mostFaults (L : LL) (o : Nat) (u : Nat → Nat) (S : OS) (v1 : Int32) (v2 : Int32) (v3 : Int32) (x : Int32) (h : f_X8_mostFaults S v1 v2 v3 = some x) : Ct L yX8_mostFaults cX8_mostFaults 6 (some .int) (rmk 3 0 0 70) 0 0 [.ref o, .int v1, .int v2, .int v3] (cells8 L o u S) (Pv (some (.int x)) (cells8 L o u S)) := by
  refine g_enter (lv := [(0, .ref o), (1, .int v1), (2, .int v2), (3, .int v3)]) kX8_mostFaults rfl rfl (Nat.le_of_ble_eq_true rfl) (fun Γ C E hNL => ?_)
  have J_7 : ∀ (n : Nat) (v1 : Int32) (v2 : Int32) (v3 : Int32) (v4 : Int32) (v5 : Int32), Lp2 (b_X8_mostFaults_7 S  v1 v2 v3) n v4 v5 = some x → G L Γ 0 0 (cells8 L o u S) 7 [(0, .ref o), (1, .int v1), (2, .int v2), (3, .int v3), (4, .int v4), (5, .int v5)] [] := by
    intro n v1 v2 v3
    refine lp_ok2 (fun v4 v5 => G L Γ 0 0 (cells8 L o u S) 7 [(0, .ref o), (1, .int v1), (2, .int v2), (3, .int v3), (4, .int v4), (5, .int v5)] []) (fun k_7 hk_7 => ?_) n
    have J_58 : ∀ (v4 : Int32) (v5 : Int32), j_X8_mostFaults_58 S k_7 v1 v2 v3 v4 v5 = some x → G L Γ 0 0 (cells8 L o u S) 58 [(0, .ref o), (1, .int v1), (2, .int v2), (3, .int v3), (4, .int v4), (5, .int v5)] [] := by
      intro v4 v5 h
      unfold j_X8_mostFaults_58 at h
      refine g_iinc C 61 (1 : Int32) 5 [(5, .int (v5 + (1 : Int32))), (0, .ref o), (1, .int v1), (2, .int v2), (3, .int v3), (4, .int v4)] dX8_mostFaults_58 rfl rfl 6 hNL (by decide) rfl rfl ?_
      refine g_goto C 7 dX8_mostFaults_61 (by decide) ?_
      refine g_lv (lv' := [(0, .ref o), (1, .int v1), (2, .int v2), (3, .int v3), (4, .int v4), (5, .int (v5 + (1 : Int32)))]) [1, 2, 3, 4, 5, 0] rfl ?_
      exact hk_7 _ _ h
    have J_54 : ∀ (v5 : Int32), j_X8_mostFaults_54 S k_7 v1 v2 v3 v5 = some x → G L Γ 0 0 (cells8 L o u S) 54 [(0, .ref o), (1, .int v1), (2, .int v2), (3, .int v3), (5, .int v5)] [] := by
      intro v5 h
      unfold j_X8_mostFaults_54 at h
      refine g_iload C 56 4 dX8_mostFaults_54 rfl rfl ?_
      refine g_istore C 58 4 [(4, .int v5), (0, .ref o), (1, .int v1), (2, .int v2), (3, .int v3), (5, .int v5)] dX8_mostFaults_56 rfl 6 hNL (by decide) rfl ?_
      refine g_lv (lv' := [(0, .ref o), (1, .int v1), (2, .int v2), (3, .int v3), (4, .int v5), (5, .int v5)]) [1, 2, 3, 4, 0, 5] rfl ?_
      exact J_58 _ _ h
    intro v4 v5 h
    unfold b_X8_mostFaults_7 at h
    refine g_iload C 9 5 dX8_mostFaults_7 rfl rfl ?_
    refine g_aload_n C 10 0 dX8_mostFaults_9 rfl rfl ?_
    refine g_get (v := .int (S.1 7)) C 13 8 0 7 hin_8 rfl rfl (by decide) wf_X8_61 rfl dX8_mostFaults_10 rfl ?_
    refine g_icmp_ge C 64 16 dX8_mostFaults_13 (by decide) rfl (fun c => ?_) (fun c => ?_)
    · have h := ifT c h
      refine g_iload C 66 4 dX8_mostFaults_64 rfl rfl ?_
      exact g_iret (st := []) C E dX8_mostFaults_66 (by obtain rfl := Option.some.inj h; exact ⟨rfl, rfl⟩)
    · have h := ifF c h
      refine g_aload_n C 17 0 dX8_mostFaults_16 rfl rfl ?_
      refine g_get (v := .ref (u 4)) C 20 8 0 4 hin_8 rfl rfl (by decide) wf_X8_22 rfl dX8_mostFaults_17 rfl ?_
      refine g_iload_n C 21 2 dX8_mostFaults_20 rfl rfl ?_
      refine grdE h (fun hb h => ?_)
      refine g_iald (f := (S.2 4)) C 22 5 rfl hb dX8_mostFaults_21 rfl ?_
      refine g_iload C 24 5 dX8_mostFaults_22 rfl rfl ?_
      refine bnd h (fun x1 e1 h => ?_)
      refine g_callSr C 27 [] [.int x1] (ct_X8_has L ((S.2 4) (v2).toNatClampNeg) v5 x1 e1) kX8_has kvX8_has wl_X8_173 [] rfl rfl rfl rfl rfl (Nat.le_of_ble_eq_true rfl) ⟨Nat.le_of_ble_eq_true rfl, Nat.le_of_ble_eq_true rfl⟩ ⟨Nat.zero_le _, Nat.zero_le _⟩ dX8_mostFaults_24 rfl ?_
      refine g_if_eq C 58 30 dX8_mostFaults_27 (by decide) rfl (fun c => ?_) (fun c => ?_)
      · have h := ifT c h
        exact J_58 _ _ h
      · have h := ifF c h
        refine g_iload C 32 4 dX8_mostFaults_30 rfl rfl ?_
        refine g_if_lt C 54 35 dX8_mostFaults_32 (by decide) rfl (fun c => ?_) (fun c => ?_)
        · have h := ifT c h
          refine g_lv (lv' := [(0, .ref o), (1, .int v1), (2, .int v2), (3, .int v3), (5, .int v5)]) [0, 1, 2, 3, 5] rfl ?_
          exact J_54 _ h
        · have h := ifF c h
          refine g_aload_n C 36 0 dX8_mostFaults_35 rfl rfl ?_
          refine g_iload_n C 37 1 dX8_mostFaults_36 rfl rfl ?_
          refine g_iload C 39 5 dX8_mostFaults_37 rfl rfl ?_
          refine g_iload_n C 40 3 dX8_mostFaults_39 rfl rfl ?_
          refine bnd h (fun x2 e2 h => ?_)
          refine g_callVs (w' := (cells8 L o u S)) C 43 [] [.int x2] (ct_X8_faultsIn L o u S v1 v5 v3 x2 e2) kX8_faultsIn kvX8_faultsIn wl_X8_176 8 0 rfl rfl rfl rfl rfl rfl rfl (Nat.le_of_ble_eq_true rfl) ⟨Nat.le_of_ble_eq_true rfl, Nat.le_of_ble_eq_true rfl⟩ ⟨Nat.zero_le _, Nat.zero_le _⟩ dX8_mostFaults_40 rfl ?_
          refine g_aload_n C 44 0 dX8_mostFaults_43 rfl rfl ?_
          refine g_iload_n C 45 1 dX8_mostFaults_44 rfl rfl ?_
          refine g_iload C 47 4 dX8_mostFaults_45 rfl rfl ?_
          refine g_iload_n C 48 3 dX8_mostFaults_47 rfl rfl ?_
          refine bnd h (fun x3 e3 h => ?_)
          refine g_callVs (w' := (cells8 L o u S)) C 51 [.int x2] [.int x3, .int x2] (ct_X8_faultsIn L o u S v1 v4 v3 x3 e3) kX8_faultsIn kvX8_faultsIn wl_X8_176 8 0 rfl rfl rfl rfl rfl rfl rfl (Nat.le_of_ble_eq_true rfl) ⟨Nat.le_of_ble_eq_true rfl, Nat.le_of_ble_eq_true rfl⟩ ⟨Nat.zero_le _, Nat.zero_le _⟩ dX8_mostFaults_48 rfl ?_
          refine g_icmp_le C 58 54 dX8_mostFaults_51 (by decide) rfl (fun c => ?_) (fun c => ?_)
          · have h := ifT c h
            exact J_58 _ _ h
          · have h := ifF c h
            refine g_lv (lv' := [(0, .ref o), (1, .int v1), (2, .int v2), (3, .int v3), (5, .int v5)]) [0, 1, 2, 3, 5] rfl ?_
            exact J_54 _ h
  unfold f_X8_mostFaults at h
  refine g_bipush C 2 (-9 : Int32) dX8_mostFaults_0 rfl rfl ?_
  refine g_istore C 4 4 [(4, .int (-9 : Int32)), (0, .ref o), (1, .int v1), (2, .int v2), (3, .int v3)] dX8_mostFaults_2 rfl 6 hNL (by decide) rfl ?_
  refine g_iconst C 5 (0 : Int32) dX8_mostFaults_4 rfl rfl ?_
  refine g_istore C 7 5 [(5, .int (0 : Int32)), (4, .int (-9 : Int32)), (0, .ref o), (1, .int v1), (2, .int v2), (3, .int v3)] dX8_mostFaults_5 rfl 6 hNL (by decide) rfl ?_
  refine g_lv (lv' := [(0, .ref o), (1, .int v1), (2, .int v2), (3, .int v3), (4, .int (-9 : Int32)), (5, .int (0 : Int32))]) [2, 3, 4, 5, 1, 0] rfl ?_
  exact J_7 _ _ _ _ _ _ h
set_option maxHeartbeats 4000000 in
set_option maxRecDepth 100000 in
theorem ct_X8_areAll (L : LL) (o : Nat) (u : Nat → Nat) (S : OS) (v1 : Int32) (v2 : Int32) (v3 : Int32) (x : Int32) (h : f_X8_areAll S v1 v2 v3 = some x) : Ct L yX8_areAll cX8_areAll 4 (some .boolean) (rmk 1 0 0 21) 0 0 [.ref o, .int v1, .int v2, .int v3] (cells8 L o u S) (Pv (some (.int x)) (cells8 L o u S)) := by
  refine g_enter (lv := [(0, .ref o), (1, .int v1), (2, .int v2), (3, .int v3)]) kX8_areAll rfl rfl (Nat.le_of_ble_eq_true rfl) (fun Γ C E hNL => ?_)
  unfold f_X8_areAll at h
  refine g_aload_n C 1 0 dX8_areAll_0 rfl rfl ?_
  refine g_iload_n C 2 1 dX8_areAll_1 rfl rfl ?_
  refine bnd h (fun x1 e1 h => ?_)
  refine g_callVs (w' := (cells8 L o u S)) C 5 [] [.int x1] (ct_X8_isLearner L o u S v1 x1 e1) kX8_isLearner kvX8_isLearner wl_X8_114 8 0 rfl rfl rfl rfl rfl rfl rfl (Nat.le_of_ble_eq_true rfl) ⟨Nat.le_of_ble_eq_true rfl, Nat.le_of_ble_eq_true rfl⟩ ⟨Nat.zero_le _, Nat.zero_le _⟩ dX8_areAll_2 rfl ?_
  refine g_if_eq C 27 8 dX8_areAll_5 (by decide) rfl (fun c => ?_) (fun c => ?_)
  · have h := ifT c h
    refine g_iconst C 28 (0 : Int32) dX8_areAll_27 rfl rfl ?_
    exact g_zret (st := []) C E dX8_areAll_28 rfl (by obtain rfl := Option.some.inj h; exact ⟨rfl, rfl⟩)
  · have h := ifF c h
    refine g_aload_n C 9 0 dX8_areAll_8 rfl rfl ?_
    refine g_iload_n C 10 2 dX8_areAll_9 rfl rfl ?_
    refine bnd h (fun x2 e2 h => ?_)
    refine g_callVs (w' := (cells8 L o u S)) C 13 [] [.int x2] (ct_X8_isWay L o u S v2 x2 e2) kX8_isWay kvX8_isWay wl_X8_120 8 0 rfl rfl rfl rfl rfl rfl rfl (Nat.le_of_ble_eq_true rfl) ⟨Nat.le_of_ble_eq_true rfl, Nat.le_of_ble_eq_true rfl⟩ ⟨Nat.zero_le _, Nat.zero_le _⟩ dX8_areAll_10 rfl ?_
    refine g_if_eq C 27 16 dX8_areAll_13 (by decide) rfl (fun c => ?_) (fun c => ?_)
    · have h := ifT c h
      refine g_iconst C 28 (0 : Int32) dX8_areAll_27 rfl rfl ?_
      exact g_zret (st := []) C E dX8_areAll_28 rfl (by obtain rfl := Option.some.inj h; exact ⟨rfl, rfl⟩)
    · have h := ifF c h
      refine g_iload_n C 17 3 dX8_areAll_16 rfl rfl ?_
      refine bnd h (fun x3 e3 h => ?_)
      refine g_callSr C 20 [] [.int x3] (ct_X8_isHour L v3 x3 e3) kX8_isHour kvX8_isHour wl_X8_126 [] rfl rfl rfl rfl rfl (Nat.le_of_ble_eq_true rfl) ⟨Nat.le_of_ble_eq_true rfl, Nat.le_of_ble_eq_true rfl⟩ ⟨Nat.zero_le _, Nat.zero_le _⟩ dX8_areAll_17 rfl ?_
      refine g_if_eq C 27 23 dX8_areAll_20 (by decide) rfl (fun c => ?_) (fun c => ?_)
      · have h := ifT c h
        refine g_iconst C 28 (0 : Int32) dX8_areAll_27 rfl rfl ?_
        exact g_zret (st := []) C E dX8_areAll_28 rfl (by obtain rfl := Option.some.inj h; exact ⟨rfl, rfl⟩)
      · have h := ifF c h
        refine g_iconst C 24 (1 : Int32) dX8_areAll_23 rfl rfl ?_
        refine g_goto C 28 dX8_areAll_24 (by decide) ?_
        exact g_zret (st := []) C E dX8_areAll_28 rfl (by obtain rfl := Option.some.inj h; exact ⟨rfl, rfl⟩)
set_option maxHeartbeats 4000000 in
set_option maxRecDepth 100000 in
theorem ct_X8_faults (L : LL) (o : Nat) (u : Nat → Nat) (S : OS) (v1 : Int32) (v2 : Int32) (v3 : Int32) (v4 : Int32) (x : (Int32 × OS)) (h : f_X8_faults S v1 v2 v3 v4 = some x) : Ct L yX8_faults cX8_faults 6 (some .int) (rmk 6 0 0 142) 0 0 [.ref o, .int v1, .int v2, .int v3, .int v4] (cells8 L o u S) (Pv (some (.int x.1)) (cells8 L o u x.2)) := by
  refine g_enter (lv := [(0, .ref o), (1, .int v1), (2, .int v2), (3, .int v3), (4, .int v4)]) kX8_faults rfl rfl (Nat.le_of_ble_eq_true rfl) (fun Γ C E hNL => ?_)
  have J_30 : ∀ (v1 : Int32) (v2 : Int32) (v3 : Int32) (v4 : Int32) (s0 : Int32) (S : OS), j_X8_faults_30   v1 v2 v3 v4 s0 S = some x → G L Γ 0 0 (cells8 L o u S) 30 [(0, .ref o), (1, .int v1), (2, .int v2), (3, .int v3), (4, .int v4)] [.int s0] := by
    intro v1 v2 v3 v4 s0 S h
    unfold j_X8_faults_30 at h
    refine g_istore C 32 5 [(5, .int s0), (0, .ref o), (1, .int v1), (2, .int v2), (3, .int v3), (4, .int v4)] dX8_faults_30 rfl 6 hNL (by decide) rfl ?_
    refine g_iload C 34 0 dX8_faults_32 rfl rfl ?_
    refine g_if_eq C 44 37 dX8_faults_34 (by decide) rfl (fun c => ?_) (fun c => ?_)
    · have h := ifT c h
      refine g_iload C 46 5 dX8_faults_44 rfl rfl ?_
      refine g_iconst C 47 (2 : Int32) dX8_faults_46 rfl rfl ?_
      refine g_icmp_ne C 58 50 dX8_faults_47 (by decide) rfl (fun c => ?_) (fun c => ?_)
      · have h := ifF c h
        refine g_iload C 60 5 dX8_faults_58 rfl rfl ?_
        refine g_if_ne C 78 63 dX8_faults_60 (by decide) rfl (fun c => ?_) (fun c => ?_)
        · have h := ifF c h
          refine g_aload_n C 79 1 dX8_faults_78 rfl rfl ?_
          refine g_iload_n C 80 2 dX8_faults_79 rfl rfl ?_
          refine g_iload_n C 81 3 dX8_faults_80 rfl rfl ?_
          refine g_iload_n C 82 4 dX8_faults_81 rfl rfl ?_
          refine bnd h (fun x3 e3 h => ?_)
          refine g_callVs (w' := (cells8 L o u S)) C 85 [] [.int x3] (ct_X8_passesWay L o u S v1 v2 v3 x3 e3) kX8_passesWay kvX8_passesWay wl_X8_185 8 0 rfl rfl rfl rfl rfl rfl rfl (Nat.le_of_ble_eq_true rfl) ⟨Nat.le_of_ble_eq_true rfl, Nat.le_of_ble_eq_true rfl⟩ ⟨Nat.zero_le _, Nat.zero_le _⟩ dX8_faults_82 rfl ?_
          refine g_if_eq C 92 88 dX8_faults_85 (by decide) rfl (fun c => ?_) (fun c => ?_)
          · have h := ifT c h
            refine g_iconst C 93 (0 : Int32) dX8_faults_92 rfl rfl ?_
            exact g_iret (st := []) C E dX8_faults_93 (by obtain rfl := Option.some.inj h; exact ⟨rfl, rfl⟩)
          · have h := ifF c h
            refine g_iconst C 89 (1 : Int32) dX8_faults_88 rfl rfl ?_
            refine g_goto C 93 dX8_faults_89 (by decide) ?_
            exact g_iret (st := []) C E dX8_faults_93 (by obtain rfl := Option.some.inj h; exact ⟨rfl, rfl⟩)
        · have h := ifT c h
          refine g_aload_n C 64 1 dX8_faults_63 rfl rfl ?_
          refine g_iload_n C 65 2 dX8_faults_64 rfl rfl ?_
          refine g_aload_n C 66 1 dX8_faults_65 rfl rfl ?_
          refine g_get (v := .ref (u 4)) C 69 8 0 4 hin_8 rfl rfl (by decide) wf_X8_22 rfl dX8_faults_66 rfl ?_
          refine g_iload_n C 70 3 dX8_faults_69 rfl rfl ?_
          refine grdE h (fun hb h => ?_)
          refine g_iald (f := (S.2 4)) C 71 5 rfl hb dX8_faults_70 rfl ?_
          refine g_iload_n C 72 4 dX8_faults_71 rfl rfl ?_
          refine bnd h (fun x4 e4 h => ?_)
          refine g_callVs (w' := (cells8 L o u S)) C 75 [] [.int x4] (ct_X8_faultsOn L o u S v1 ((S.2 4) (v2).toNatClampNeg) v3 x4 e4) kX8_faultsOn kvX8_faultsOn wl_X8_179 8 0 rfl rfl rfl rfl rfl rfl rfl (Nat.le_of_ble_eq_true rfl) ⟨Nat.le_of_ble_eq_true rfl, Nat.le_of_ble_eq_true rfl⟩ ⟨Nat.zero_le _, Nat.zero_le _⟩ dX8_faults_72 rfl ?_
          refine g_goto C 93 dX8_faults_75 (by decide) ?_
          exact g_iret (st := []) C E dX8_faults_93 (by obtain rfl := Option.some.inj h; exact ⟨rfl, rfl⟩)
      · have h := ifT c h
        refine g_aload_n C 51 1 dX8_faults_50 rfl rfl ?_
        refine g_iload_n C 52 2 dX8_faults_51 rfl rfl ?_
        refine g_iload_n C 53 3 dX8_faults_52 rfl rfl ?_
        refine g_iload_n C 54 4 dX8_faults_53 rfl rfl ?_
        refine bnd h (fun x5 e5 h => ?_)
        refine g_callVs (w' := (cells8 L o u S)) C 57 [] [.int x5] (ct_X8_mostFaults L o u S v1 v2 v3 x5 e5) kX8_mostFaults kvX8_mostFaults wl_X8_206 8 0 rfl rfl rfl rfl rfl rfl rfl (Nat.le_of_ble_eq_true rfl) ⟨Nat.le_of_ble_eq_true rfl, Nat.le_of_ble_eq_true rfl⟩ ⟨Nat.zero_le _, Nat.zero_le _⟩ dX8_faults_54 rfl ?_
        exact g_iret (st := []) C E dX8_faults_57 (by obtain rfl := Option.some.inj h; exact ⟨rfl, rfl⟩)
    · have h := ifF c h
      refine g_aload_n C 38 1 dX8_faults_37 rfl rfl ?_
      refine g_iload C 40 0 dX8_faults_38 rfl rfl ?_
      refine bnd h (fun x6 e6 h => ?_)
      refine g_callVs (w' := (cells8 L o u x6.2)) C 43 [] [.int x6.1] (ct_X8_no L o u S s0 x6 e6) kX8_no kvX8_no wl_X8_77 8 0 rfl rfl rfl rfl rfl rfl rfl (Nat.le_of_ble_eq_true rfl) ⟨Nat.le_of_ble_eq_true rfl, Nat.le_of_ble_eq_true rfl⟩ ⟨Nat.zero_le _, Nat.zero_le _⟩ dX8_faults_40 rfl ?_
      exact g_iret (st := []) C E dX8_faults_43 (by obtain rfl := Option.some.inj h; exact ⟨rfl, rfl⟩)
  unfold f_X8_faults at h
  refine g_aload_n C 1 0 dX8_faults_0 rfl rfl ?_
  refine g_iload_n C 2 1 dX8_faults_1 rfl rfl ?_
  refine g_iload_n C 3 2 dX8_faults_2 rfl rfl ?_
  refine g_iload_n C 4 3 dX8_faults_3 rfl rfl ?_
  refine bnd h (fun x1 e1 h => ?_)
  refine g_callVs (w' := (cells8 L o u S)) C 7 [] [.int x1] (ct_X8_areAll L o u S v1 v2 v3 x1 e1) kX8_areAll kvX8_areAll wl_X8_203 8 0 rfl rfl rfl rfl rfl rfl rfl (Nat.le_of_ble_eq_true rfl) ⟨Nat.le_of_ble_eq_true rfl, Nat.le_of_ble_eq_true rfl⟩ ⟨Nat.zero_le _, Nat.zero_le _⟩ dX8_faults_4 rfl ?_
  refine g_if_ne C 14 10 dX8_faults_7 (by decide) rfl (fun c => ?_) (fun c => ?_)
  · have h := ifF c h
    refine g_iload C 16 4 dX8_faults_14 rfl rfl ?_
    refine g_iconst C 17 (0 : Int32) dX8_faults_16 rfl rfl ?_
    refine g_iconst C 18 (2 : Int32) dX8_faults_17 rfl rfl ?_
    refine bnd h (fun x2 e2 h => ?_)
    refine g_callSr C 21 [] [.int x2] (ct_X8_isIn L v4 (0 : Int32) (2 : Int32) x2 e2) kX8_isIn kvX8_isIn wl_X8_88 [] rfl rfl rfl rfl rfl (Nat.le_of_ble_eq_true rfl) ⟨Nat.le_of_ble_eq_true rfl, Nat.le_of_ble_eq_true rfl⟩ ⟨Nat.zero_le _, Nat.zero_le _⟩ dX8_faults_18 rfl ?_
    refine g_if_ne C 29 24 dX8_faults_21 (by decide) rfl (fun c => ?_) (fun c => ?_)
    · have h := ifF c h
      refine g_iconst C 30 (0 : Int32) dX8_faults_29 rfl rfl ?_
      exact J_30 _ _ _ _ _ _ h
    · have h := ifT c h
      refine g_bipush C 26 (-2 : Int32) dX8_faults_24 rfl rfl ?_
      refine g_goto C 30 dX8_faults_26 (by decide) ?_
      exact J_30 _ _ _ _ _ _ h
  · have h := ifT c h
    refine g_iconst C 11 (-1 : Int32) dX8_faults_10 rfl rfl ?_
    refine g_goto C 30 dX8_faults_11 (by decide) ?_
    exact J_30 _ _ _ _ _ _ h
set_option maxHeartbeats 4000000 in
set_option maxRecDepth 100000 in
theorem ct_X8_bestHour (L : LL) (o : Nat) (u : Nat → Nat) (S : OS) (v1 : Int32) (v2 : Int32) (v3 : Int32) (x : (Int32 × OS)) (h : f_X8_bestHour S v1 v2 v3 = some x) : Ct L yX8_bestHour cX8_bestHour 8 (some .int) (rmk 6 0 0 142) 0 0 [.ref o, .int v1, .int v2, .int v3] (cells8 L o u S) (Pv (some (.int x.1)) (cells8 L o u x.2)) := by
  refine g_enter (lv := [(0, .ref o), (1, .int v1), (2, .int v2), (3, .int v3)]) kX8_bestHour rfl rfl (Nat.le_of_ble_eq_true rfl) (fun Γ C E hNL => ?_)
  have J_133 : ∀ (v3 : Int32) (v5 : Int32) (v6 : Int32) (S : OS), j_X8_bestHour_133   v3 v5 v6 S = some x → G L Γ 0 0 (cells8 L o u S) 133 [(3, .int v3), (5, .int v5), (6, .int v6)] [] := by
    intro v3 v5 v6 S h
    unfold j_X8_bestHour_133 at h
    refine g_iload_n C 134 0 dX8_bestHour_133 rfl rfl ?_
    refine g_if_ne C 142 137 dX8_bestHour_134 (by decide) rfl (fun c => ?_) (fun c => ?_)
    · have h := ifF c h
      refine g_iload C 144 2 dX8_bestHour_142 rfl rfl ?_
      exact g_iret (st := []) C E dX8_bestHour_144 (by obtain rfl := Option.some.inj h; exact ⟨rfl, rfl⟩)
    · have h := ifT c h
      refine g_iload C 139 1 dX8_bestHour_137 rfl rfl ?_
      refine g_goto C 144 dX8_bestHour_139 (by decide) ?_
      exact g_iret (st := []) C E dX8_bestHour_144 (by obtain rfl := Option.some.inj h; exact ⟨rfl, rfl⟩)
  have J_58 : ∀ (n : Nat) (v1 : Int32) (v2 : Int32) (v3 : Int32) (S : OS) (v5 : Int32) (v6 : Int32) (v7 : Int32), Lp3 (b_X8_bestHour_58   v1 v2 v3 S) n v5 v6 v7 = some x → G L Γ 0 0 (cells8 L o u S) 58 [(0, .ref o), (1, .int v1), (2, .int v2), (3, .int v3), (5, .int v5), (6, .int v6), (7, .int v7)] [] := by
    intro n v1 v2 v3 S
    refine lp_ok3 (fun v5 v6 v7 => G L Γ 0 0 (cells8 L o u S) 58 [(0, .ref o), (1, .int v1), (2, .int v2), (3, .int v3), (5, .int v5), (6, .int v6), (7, .int v7)] []) (fun k_58 hk_58 => ?_) n
    have J_125 : ∀ (v6 : Int32) (v7 : Int32) (s0 : Int32), j_X8_bestHour_125  k_58 v1 v2 v3 v6 v7 s0 S = some x → G L Γ 0 0 (cells8 L o u S) 125 [(0, .ref o), (1, .int v1), (2, .int v2), (3, .int v3), (6, .int v6), (7, .int v7)] [.int s0] := by
      intro v6 v7 s0 h
      unfold j_X8_bestHour_125 at h
      refine g_istore C 127 5 [(5, .int s0), (0, .ref o), (1, .int v1), (2, .int v2), (3, .int v3), (6, .int v6), (7, .int v7)] dX8_bestHour_125 rfl 8 hNL (by decide) rfl ?_
      refine g_iinc C 130 (1 : Int32) 6 [(7, .int (v7 + (1 : Int32))), (5, .int s0), (0, .ref o), (1, .int v1), (2, .int v2), (3, .int v3), (6, .int v6)] dX8_bestHour_127 rfl rfl 8 hNL (by decide) rfl rfl ?_
      refine g_goto C 58 dX8_bestHour_130 (by decide) ?_
      refine g_lv (lv' := [(0, .ref o), (1, .int v1), (2, .int v2), (3, .int v3), (5, .int s0), (6, .int v6), (7, .int (v7 + (1 : Int32)))]) [2, 3, 4, 5, 1, 6, 0] rfl ?_
      exact hk_58 _ _ _ h
    have J_86 : ∀ (v5 : Int32) (v7 : Int32) (s0 : Int32) (s1 : Int32), j_X8_bestHour_86  k_58 v1 v2 v3 v5 v7 s0 s1 S = some x → G L Γ 0 0 (cells8 L o u S) 86 [(0, .ref o), (1, .int v1), (2, .int v2), (3, .int v3), (5, .int v5), (7, .int v7)] [.int s0, .int s1] := by
      intro v5 v7 s0 s1 h
      unfold j_X8_bestHour_86 at h
      refine g_ior C 87 dX8_bestHour_86 rfl ?_
      refine g_istore C 89 6 [(6, .int (s1 ||| s0)), (0, .ref o), (1, .int v1), (2, .int v2), (3, .int v3), (5, .int v5), (7, .int v7)] dX8_bestHour_87 rfl 8 hNL (by decide) rfl ?_
      refine g_aload_n C 90 1 dX8_bestHour_89 rfl rfl ?_
      refine g_iload_n C 91 2 dX8_bestHour_90 rfl rfl ?_
      refine g_aload_n C 92 1 dX8_bestHour_91 rfl rfl ?_
      refine g_get (v := .ref (u 4)) C 95 8 0 4 hin_8 rfl rfl (by decide) wf_X8_22 rfl dX8_bestHour_92 rfl ?_
      refine g_iload_n C 96 3 dX8_bestHour_95 rfl rfl ?_
      refine grdE h (fun hb h => ?_)
      refine g_iald (f := (S.2 4)) C 97 5 rfl hb dX8_bestHour_96 rfl ?_
      refine g_iload C 99 6 dX8_bestHour_97 rfl rfl ?_
      refine bnd h (fun x6 e6 h => ?_)
      refine g_callVs (w' := (cells8 L o u S)) C 102 [] [.int x6] (ct_X8_faultsOn L o u S v1 ((S.2 4) (v2).toNatClampNeg) v7 x6 e6) kX8_faultsOn kvX8_faultsOn wl_X8_179 8 0 rfl rfl rfl rfl rfl rfl rfl (Nat.le_of_ble_eq_true rfl) ⟨Nat.le_of_ble_eq_true rfl, Nat.le_of_ble_eq_true rfl⟩ ⟨Nat.zero_le _, Nat.zero_le _⟩ dX8_bestHour_99 rfl ?_
      refine g_aload_n C 103 1 dX8_bestHour_102 rfl rfl ?_
      refine g_iload_n C 104 2 dX8_bestHour_103 rfl rfl ?_
      refine g_aload_n C 105 1 dX8_bestHour_104 rfl rfl ?_
      refine g_get (v := .ref (u 4)) C 108 8 0 4 hin_8 rfl rfl (by decide) wf_X8_22 rfl dX8_bestHour_105 rfl ?_
      refine g_iload_n C 109 3 dX8_bestHour_108 rfl rfl ?_
      refine grdE h (fun hb h => ?_)
      refine g_iald (f := (S.2 4)) C 110 5 rfl hb dX8_bestHour_109 rfl ?_
      refine g_iload C 112 5 dX8_bestHour_110 rfl rfl ?_
      refine bnd h (fun x7 e7 h => ?_)
      refine g_callVs (w' := (cells8 L o u S)) C 115 [.int x6] [.int x7, .int x6] (ct_X8_faultsOn L o u S v1 ((S.2 4) (v2).toNatClampNeg) v5 x7 e7) kX8_faultsOn kvX8_faultsOn wl_X8_179 8 0 rfl rfl rfl rfl rfl rfl rfl (Nat.le_of_ble_eq_true rfl) ⟨Nat.le_of_ble_eq_true rfl, Nat.le_of_ble_eq_true rfl⟩ ⟨Nat.zero_le _, Nat.zero_le _⟩ dX8_bestHour_112 rfl ?_
      refine g_icmp_ge C 123 118 dX8_bestHour_115 (by decide) rfl (fun c => ?_) (fun c => ?_)
      · have h := ifT c h
        refine g_iload C 125 5 dX8_bestHour_123 rfl rfl ?_
        refine g_lv (lv' := [(0, .ref o), (1, .int v1), (2, .int v2), (3, .int v3), (6, .int (s1 ||| s0)), (7, .int v7)]) [1, 2, 3, 4, 0, 6] rfl ?_
        exact J_125 _ _ _ h
      · have h := ifF c h
        refine g_iload C 120 6 dX8_bestHour_118 rfl rfl ?_
        refine g_goto C 125 dX8_bestHour_120 (by decide) ?_
        refine g_lv (lv' := [(0, .ref o), (1, .int v1), (2, .int v2), (3, .int v3), (6, .int (s1 ||| s0)), (7, .int v7)]) [1, 2, 3, 4, 0, 6] rfl ?_
        exact J_125 _ _ _ h
    intro v5 v6 v7 h
    unfold b_X8_bestHour_58 at h
    refine g_iload C 60 6 dX8_bestHour_58 rfl rfl ?_
    refine g_bipush C 62 (24 : Int32) dX8_bestHour_60 rfl rfl ?_
    refine g_icmp_ge C 133 65 dX8_bestHour_62 (by decide) rfl (fun c => ?_) (fun c => ?_)
    · have h := ifT c h
      refine g_lv (lv' := [(3, .int v3), (5, .int v5), (6, .int v6)]) [3, 4, 5] rfl ?_
      exact J_133 _ _ _ _ h
    · have h := ifF c h
      refine g_iload C 67 5 dX8_bestHour_65 rfl rfl ?_
      refine g_aload_n C 68 0 dX8_bestHour_67 rfl rfl ?_
      refine g_iload_n C 69 1 dX8_bestHour_68 rfl rfl ?_
      refine g_iload_n C 70 2 dX8_bestHour_69 rfl rfl ?_
      refine g_iload C 72 6 dX8_bestHour_70 rfl rfl ?_
      refine bnd h (fun x5 e5 h => ?_)
      refine g_callVs (w' := (cells8 L o u S)) C 75 [.int v6] [.int x5, .int v6] (ct_X8_passesWay L o u S v1 v2 v7 x5 e5) kX8_passesWay kvX8_passesWay wl_X8_185 8 0 rfl rfl rfl rfl rfl rfl rfl (Nat.le_of_ble_eq_true rfl) ⟨Nat.le_of_ble_eq_true rfl, Nat.le_of_ble_eq_true rfl⟩ ⟨Nat.zero_le _, Nat.zero_le _⟩ dX8_bestHour_72 rfl ?_
      refine g_if_eq C 85 78 dX8_bestHour_75 (by decide) rfl (fun c => ?_) (fun c => ?_)
      · have h := ifT c h
        refine g_iconst C 86 (0 : Int32) dX8_bestHour_85 rfl rfl ?_
        refine g_lv (lv' := [(0, .ref o), (1, .int v1), (2, .int v2), (3, .int v3), (5, .int v5), (7, .int v7)]) [0, 1, 2, 3, 4, 6] rfl ?_
        exact J_86 _ _ _ _ h
      · have h := ifF c h
        refine g_iconst C 79 (1 : Int32) dX8_bestHour_78 rfl rfl ?_
        refine g_iload C 81 6 dX8_bestHour_79 rfl rfl ?_
        refine g_ishl C 82 dX8_bestHour_81 rfl ?_
        refine g_goto C 86 dX8_bestHour_82 (by decide) ?_
        refine g_lv (lv' := [(0, .ref o), (1, .int v1), (2, .int v2), (3, .int v3), (5, .int v5), (7, .int v7)]) [0, 1, 2, 3, 4, 6] rfl ?_
        exact J_86 _ _ _ _ h
  have J_35 : ∀ (v1 : Int32) (v2 : Int32) (v3 : Int32) (s0 : Int32) (S : OS), j_X8_bestHour_35   v1 v2 v3 s0 S = some x → G L Γ 0 0 (cells8 L o u S) 35 [(0, .ref o), (1, .int v1), (2, .int v2), (3, .int v3)] [.int s0] := by
    intro v1 v2 v3 s0 S h
    unfold j_X8_bestHour_35 at h
    refine g_istore C 37 4 [(4, .int s0), (0, .ref o), (1, .int v1), (2, .int v2), (3, .int v3)] dX8_bestHour_35 rfl 8 hNL (by decide) rfl ?_
    refine g_iload C 39 0 dX8_bestHour_37 rfl rfl ?_
    refine g_if_eq C 49 42 dX8_bestHour_39 (by decide) rfl (fun c => ?_) (fun c => ?_)
    · have h := ifT c h
      refine g_iconst C 50 (0 : Int32) dX8_bestHour_49 rfl rfl ?_
      refine g_istore C 52 5 [(5, .int (0 : Int32)), (4, .int s0), (0, .ref o), (1, .int v1), (2, .int v2), (3, .int v3)] dX8_bestHour_50 rfl 8 hNL (by decide) rfl ?_
      refine g_iconst C 53 (0 : Int32) dX8_bestHour_52 rfl rfl ?_
      refine g_istore C 55 6 [(6, .int (0 : Int32)), (5, .int (0 : Int32)), (4, .int s0), (0, .ref o), (1, .int v1), (2, .int v2), (3, .int v3)] dX8_bestHour_53 rfl 8 hNL (by decide) rfl ?_
      refine g_iconst C 56 (0 : Int32) dX8_bestHour_55 rfl rfl ?_
      refine g_istore C 58 7 [(7, .int (0 : Int32)), (6, .int (0 : Int32)), (5, .int (0 : Int32)), (4, .int s0), (0, .ref o), (1, .int v1), (2, .int v2), (3, .int v3)] dX8_bestHour_56 rfl 8 hNL (by decide) rfl ?_
      refine g_lv (lv' := [(0, .ref o), (1, .int v1), (2, .int v2), (3, .int v3), (5, .int (0 : Int32)), (6, .int (0 : Int32)), (7, .int (0 : Int32))]) [4, 5, 6, 7, 2, 1, 0] rfl ?_
      exact J_58 _ _ _ _ _ _ _ _ h
    · have h := ifF c h
      refine g_aload_n C 43 1 dX8_bestHour_42 rfl rfl ?_
      refine g_iload C 45 0 dX8_bestHour_43 rfl rfl ?_
      refine bnd h (fun x4 e4 h => ?_)
      refine g_callVs (w' := (cells8 L o u x4.2)) C 48 [] [.int x4.1] (ct_X8_no L o u S s0 x4 e4) kX8_no kvX8_no wl_X8_77 8 0 rfl rfl rfl rfl rfl rfl rfl (Nat.le_of_ble_eq_true rfl) ⟨Nat.le_of_ble_eq_true rfl, Nat.le_of_ble_eq_true rfl⟩ ⟨Nat.zero_le _, Nat.zero_le _⟩ dX8_bestHour_45 rfl ?_
      exact g_iret (st := []) C E dX8_bestHour_48 (by obtain rfl := Option.some.inj h; exact ⟨rfl, rfl⟩)
  have J_16 : ∀ (v1 : Int32) (v2 : Int32) (v3 : Int32) (S : OS), j_X8_bestHour_16   v1 v2 v3 S = some x → G L Γ 0 0 (cells8 L o u S) 16 [(0, .ref o), (1, .int v1), (2, .int v2), (3, .int v3)] [] := by
    intro v1 v2 v3 S h
    unfold j_X8_bestHour_16 at h
    refine g_iconst C 17 (-1 : Int32) dX8_bestHour_16 rfl rfl ?_
    refine g_goto C 35 dX8_bestHour_17 (by decide) ?_
    exact J_35 _ _ _ _ _ h
  unfold f_X8_bestHour at h
  refine g_aload_n C 1 0 dX8_bestHour_0 rfl rfl ?_
  refine g_iload_n C 2 1 dX8_bestHour_1 rfl rfl ?_
  refine bnd h (fun x1 e1 h => ?_)
  refine g_callVs (w' := (cells8 L o u S)) C 5 [] [.int x1] (ct_X8_isLearner L o u S v1 x1 e1) kX8_isLearner kvX8_isLearner wl_X8_114 8 0 rfl rfl rfl rfl rfl rfl rfl (Nat.le_of_ble_eq_true rfl) ⟨Nat.le_of_ble_eq_true rfl, Nat.le_of_ble_eq_true rfl⟩ ⟨Nat.zero_le _, Nat.zero_le _⟩ dX8_bestHour_2 rfl ?_
  refine g_if_eq C 16 8 dX8_bestHour_5 (by decide) rfl (fun c => ?_) (fun c => ?_)
  · have h := ifT c h
    exact J_16 _ _ _ _ h
  · have h := ifF c h
    refine g_aload_n C 9 0 dX8_bestHour_8 rfl rfl ?_
    refine g_iload_n C 10 2 dX8_bestHour_9 rfl rfl ?_
    refine bnd h (fun x2 e2 h => ?_)
    refine g_callVs (w' := (cells8 L o u S)) C 13 [] [.int x2] (ct_X8_isWay L o u S v2 x2 e2) kX8_isWay kvX8_isWay wl_X8_120 8 0 rfl rfl rfl rfl rfl rfl rfl (Nat.le_of_ble_eq_true rfl) ⟨Nat.le_of_ble_eq_true rfl, Nat.le_of_ble_eq_true rfl⟩ ⟨Nat.zero_le _, Nat.zero_le _⟩ dX8_bestHour_10 rfl ?_
    refine g_if_ne C 20 16 dX8_bestHour_13 (by decide) rfl (fun c => ?_) (fun c => ?_)
    · have h := ifF c h
      refine g_iload_n C 21 3 dX8_bestHour_20 rfl rfl ?_
      refine g_iconst C 22 (0 : Int32) dX8_bestHour_21 rfl rfl ?_
      refine g_iconst C 23 (1 : Int32) dX8_bestHour_22 rfl rfl ?_
      refine bnd h (fun x3 e3 h => ?_)
      refine g_callSr C 26 [] [.int x3] (ct_X8_isIn L v3 (0 : Int32) (1 : Int32) x3 e3) kX8_isIn kvX8_isIn wl_X8_88 [] rfl rfl rfl rfl rfl (Nat.le_of_ble_eq_true rfl) ⟨Nat.le_of_ble_eq_true rfl, Nat.le_of_ble_eq_true rfl⟩ ⟨Nat.zero_le _, Nat.zero_le _⟩ dX8_bestHour_23 rfl ?_
      refine g_if_ne C 34 29 dX8_bestHour_26 (by decide) rfl (fun c => ?_) (fun c => ?_)
      · have h := ifF c h
        refine g_iconst C 35 (0 : Int32) dX8_bestHour_34 rfl rfl ?_
        exact J_35 _ _ _ _ _ h
      · have h := ifT c h
        refine g_bipush C 31 (-2 : Int32) dX8_bestHour_29 rfl rfl ?_
        refine g_goto C 35 dX8_bestHour_31 (by decide) ?_
        exact J_35 _ _ _ _ _ h
    · have h := ifT c h
      exact J_16 _ _ _ _ h
set_option maxHeartbeats 4000000 in
set_option maxRecDepth 100000 in
theorem ct_X8_easiest (L : LL) (o : Nat) (u : Nat → Nat) (S : OS) (v1 : Int32) (v2 : Int32) (v3 : Int32) (x : (Int32 × OS)) (h : f_X8_easiest S v1 v2 v3 = some x) : Ct L yX8_easiest cX8_easiest 7 (some .int) (rmk 7 0 0 166) 0 0 [.ref o, .int v1, .int v2, .int v3] (cells8 L o u S) (Pv (some (.int x.1)) (cells8 L o u x.2)) := by
  refine g_enter (lv := [(0, .ref o), (1, .int v1), (2, .int v2), (3, .int v3)]) kX8_easiest rfl rfl (Nat.le_of_ble_eq_true rfl) (fun Γ C E hNL => ?_)
  have J_67 : ∀ (n : Nat) (v1 : Int32) (v2 : Int32) (S : OS) (v5 : Int32) (v6 : Int32), Lp2 (b_X8_easiest_67   v1 v2 S) n v5 v6 = some x → G L Γ 0 0 (cells8 L o u S) 67 [(0, .ref o), (1, .int v1), (2, .int v2), (5, .int v5), (6, .int v6)] [] := by
    intro n v1 v2 S
    refine lp_ok2 (fun v5 v6 => G L Γ 0 0 (cells8 L o u S) 67 [(0, .ref o), (1, .int v1), (2, .int v2), (5, .int v5), (6, .int v6)] []) (fun k_67 hk_67 => ?_) n
    have J_114 : ∀ (v5 : Int32) (v6 : Int32), j_X8_easiest_114  k_67 v1 v2 v5 v6 S = some x → G L Γ 0 0 (cells8 L o u S) 114 [(0, .ref o), (1, .int v1), (2, .int v2), (5, .int v5), (6, .int v6)] [] := by
      intro v5 v6 h
      unfold j_X8_easiest_114 at h
      refine g_iinc C 117 (1 : Int32) 4 [(6, .int (v6 + (1 : Int32))), (0, .ref o), (1, .int v1), (2, .int v2), (5, .int v5)] dX8_easiest_114 rfl rfl 7 hNL (by decide) rfl rfl ?_
      refine g_goto C 67 dX8_easiest_117 (by decide) ?_
      refine g_lv (lv' := [(0, .ref o), (1, .int v1), (2, .int v2), (5, .int v5), (6, .int (v6 + (1 : Int32)))]) [1, 2, 3, 4, 0] rfl ?_
      exact hk_67 _ _ h
    have J_110 : ∀ (v6 : Int32), j_X8_easiest_110  k_67 v1 v2 v6 S = some x → G L Γ 0 0 (cells8 L o u S) 110 [(0, .ref o), (1, .int v1), (2, .int v2), (6, .int v6)] [] := by
      intro v6 h
      unfold j_X8_easiest_110 at h
      refine g_iload C 112 3 dX8_easiest_110 rfl rfl ?_
      refine g_istore C 114 5 [(5, .int v6), (0, .ref o), (1, .int v1), (2, .int v2), (6, .int v6)] dX8_easiest_112 rfl 7 hNL (by decide) rfl ?_
      refine g_lv (lv' := [(0, .ref o), (1, .int v1), (2, .int v2), (5, .int v6), (6, .int v6)]) [1, 2, 3, 0, 4] rfl ?_
      exact J_114 _ _ h
    intro v5 v6 h
    unfold b_X8_easiest_67 at h
    refine g_iload C 69 4 dX8_easiest_67 rfl rfl ?_
    refine g_aload_n C 70 0 dX8_easiest_69 rfl rfl ?_
    refine g_get (v := .int (S.1 8)) C 73 8 0 8 hin_8 rfl rfl (by decide) wf_X8_64 rfl dX8_easiest_70 rfl ?_
    refine g_icmp_ge C 120 76 dX8_easiest_73 (by decide) rfl (fun c => ?_) (fun c => ?_)
    · have h := ifT c h
      refine g_iload C 122 3 dX8_easiest_120 rfl rfl ?_
      exact g_iret (st := []) C E dX8_easiest_122 (by obtain rfl := Option.some.inj h; exact ⟨rfl, rfl⟩)
    · have h := ifF c h
      refine g_iload C 78 3 dX8_easiest_76 rfl rfl ?_
      refine g_if_lt C 110 81 dX8_easiest_78 (by decide) rfl (fun c => ?_) (fun c => ?_)
      · have h := ifT c h
        refine g_lv (lv' := [(0, .ref o), (1, .int v1), (2, .int v2), (6, .int v6)]) [0, 1, 2, 4] rfl ?_
        exact J_110 _ h
      · have h := ifF c h
        refine g_aload_n C 82 0 dX8_easiest_81 rfl rfl ?_
        refine g_iload_n C 83 1 dX8_easiest_82 rfl rfl ?_
        refine g_aload_n C 84 0 dX8_easiest_83 rfl rfl ?_
        refine g_get (v := .ref (u 4)) C 87 8 0 4 hin_8 rfl rfl (by decide) wf_X8_22 rfl dX8_easiest_84 rfl ?_
        refine g_iload C 89 4 dX8_easiest_87 rfl rfl ?_
        refine grdE h (fun hb h => ?_)
        refine g_iald (f := (S.2 4)) C 90 5 rfl hb dX8_easiest_89 rfl ?_
        refine g_iload_n C 91 2 dX8_easiest_90 rfl rfl ?_
        refine bnd h (fun x6 e6 h => ?_)
        refine g_callVs (w' := (cells8 L o u S)) C 94 [] [.int x6] (ct_X8_faultsOn L o u S v1 ((S.2 4) (v6).toNatClampNeg) v2 x6 e6) kX8_faultsOn kvX8_faultsOn wl_X8_179 8 0 rfl rfl rfl rfl rfl rfl rfl (Nat.le_of_ble_eq_true rfl) ⟨Nat.le_of_ble_eq_true rfl, Nat.le_of_ble_eq_true rfl⟩ ⟨Nat.zero_le _, Nat.zero_le _⟩ dX8_easiest_91 rfl ?_
        refine g_aload_n C 95 0 dX8_easiest_94 rfl rfl ?_
        refine g_iload_n C 96 1 dX8_easiest_95 rfl rfl ?_
        refine g_aload_n C 97 0 dX8_easiest_96 rfl rfl ?_
        refine g_get (v := .ref (u 4)) C 100 8 0 4 hin_8 rfl rfl (by decide) wf_X8_22 rfl dX8_easiest_97 rfl ?_
        refine g_iload C 102 3 dX8_easiest_100 rfl rfl ?_
        refine grdE h (fun hb h => ?_)
        refine g_iald (f := (S.2 4)) C 103 5 rfl hb dX8_easiest_102 rfl ?_
        refine g_iload_n C 104 2 dX8_easiest_103 rfl rfl ?_
        refine bnd h (fun x7 e7 h => ?_)
        refine g_callVs (w' := (cells8 L o u S)) C 107 [.int x6] [.int x7, .int x6] (ct_X8_faultsOn L o u S v1 ((S.2 4) (v5).toNatClampNeg) v2 x7 e7) kX8_faultsOn kvX8_faultsOn wl_X8_179 8 0 rfl rfl rfl rfl rfl rfl rfl (Nat.le_of_ble_eq_true rfl) ⟨Nat.le_of_ble_eq_true rfl, Nat.le_of_ble_eq_true rfl⟩ ⟨Nat.zero_le _, Nat.zero_le _⟩ dX8_easiest_104 rfl ?_
        refine g_icmp_ge C 114 110 dX8_easiest_107 (by decide) rfl (fun c => ?_) (fun c => ?_)
        · have h := ifT c h
          exact J_114 _ _ h
        · have h := ifF c h
          refine g_lv (lv' := [(0, .ref o), (1, .int v1), (2, .int v2), (6, .int v6)]) [0, 1, 2, 4] rfl ?_
          exact J_110 _ h
  have J_34 : ∀ (v1 : Int32) (v2 : Int32) (v3 : Int32) (s0 : Int32) (S : OS), j_X8_easiest_34   v1 v2 v3 s0 S = some x → G L Γ 0 0 (cells8 L o u S) 34 [(0, .ref o), (1, .int v1), (2, .int v2), (3, .int v3)] [.int s0] := by
    intro v1 v2 v3 s0 S h
    unfold j_X8_easiest_34 at h
    refine g_istore C 36 4 [(4, .int s0), (0, .ref o), (1, .int v1), (2, .int v2), (3, .int v3)] dX8_easiest_34 rfl 7 hNL (by decide) rfl ?_
    refine g_iload C 38 0 dX8_easiest_36 rfl rfl ?_
    refine g_if_eq C 48 41 dX8_easiest_38 (by decide) rfl (fun c => ?_) (fun c => ?_)
    · have h := ifT c h
      refine g_iload_n C 49 4 dX8_easiest_48 rfl rfl ?_
      refine g_iconst C 50 (1 : Int32) dX8_easiest_49 rfl rfl ?_
      refine g_icmp_ne C 60 53 dX8_easiest_50 (by decide) rfl (fun c => ?_) (fun c => ?_)
      · have h := ifF c h
        refine g_bipush C 62 (-9 : Int32) dX8_easiest_60 rfl rfl ?_
        refine g_istore C 64 5 [(5, .int (-9 : Int32)), (4, .int s0), (0, .ref o), (1, .int v1), (2, .int v2), (3, .int v3)] dX8_easiest_62 rfl 7 hNL (by decide) rfl ?_
        refine g_iconst C 65 (0 : Int32) dX8_easiest_64 rfl rfl ?_
        refine g_istore C 67 6 [(6, .int (0 : Int32)), (5, .int (-9 : Int32)), (4, .int s0), (0, .ref o), (1, .int v1), (2, .int v2), (3, .int v3)] dX8_easiest_65 rfl 7 hNL (by decide) rfl ?_
        refine g_lv (lv' := [(0, .ref o), (1, .int v1), (2, .int v2), (5, .int (-9 : Int32)), (6, .int (0 : Int32))]) [3, 4, 5, 1, 0] rfl ?_
        exact J_67 _ _ _ _ _ _ h
      · have h := ifT c h
        refine g_aload_n C 54 1 dX8_easiest_53 rfl rfl ?_
        refine g_iload_n C 55 2 dX8_easiest_54 rfl rfl ?_
        refine g_iload_n C 56 3 dX8_easiest_55 rfl rfl ?_
        refine bnd h (fun x4 e4 h => ?_)
        refine g_callVs (w' := (cells8 L o u S)) C 59 [] [.int x4] (ct_X8_passedWays L o u S v1 v2 x4 e4) kX8_passedWays kvX8_passedWays wl_X8_209 8 0 rfl rfl rfl rfl rfl rfl rfl (Nat.le_of_ble_eq_true rfl) ⟨Nat.le_of_ble_eq_true rfl, Nat.le_of_ble_eq_true rfl⟩ ⟨Nat.zero_le _, Nat.zero_le _⟩ dX8_easiest_56 rfl ?_
        exact g_iret (st := []) C E dX8_easiest_59 (by obtain rfl := Option.some.inj h; exact ⟨rfl, rfl⟩)
    · have h := ifF c h
      refine g_aload_n C 42 1 dX8_easiest_41 rfl rfl ?_
      refine g_iload C 44 0 dX8_easiest_42 rfl rfl ?_
      refine bnd h (fun x5 e5 h => ?_)
      refine g_callVs (w' := (cells8 L o u x5.2)) C 47 [] [.int x5.1] (ct_X8_no L o u S s0 x5 e5) kX8_no kvX8_no wl_X8_77 8 0 rfl rfl rfl rfl rfl rfl rfl (Nat.le_of_ble_eq_true rfl) ⟨Nat.le_of_ble_eq_true rfl, Nat.le_of_ble_eq_true rfl⟩ ⟨Nat.zero_le _, Nat.zero_le _⟩ dX8_easiest_44 rfl ?_
      exact g_iret (st := []) C E dX8_easiest_47 (by obtain rfl := Option.some.inj h; exact ⟨rfl, rfl⟩)
  have J_15 : ∀ (v1 : Int32) (v2 : Int32) (v3 : Int32) (S : OS), j_X8_easiest_15   v1 v2 v3 S = some x → G L Γ 0 0 (cells8 L o u S) 15 [(0, .ref o), (1, .int v1), (2, .int v2), (3, .int v3)] [] := by
    intro v1 v2 v3 S h
    unfold j_X8_easiest_15 at h
    refine g_iconst C 16 (-1 : Int32) dX8_easiest_15 rfl rfl ?_
    refine g_goto C 34 dX8_easiest_16 (by decide) ?_
    exact J_34 _ _ _ _ _ h
  unfold f_X8_easiest at h
  refine g_aload_n C 1 0 dX8_easiest_0 rfl rfl ?_
  refine g_iload_n C 2 1 dX8_easiest_1 rfl rfl ?_
  refine bnd h (fun x1 e1 h => ?_)
  refine g_callVs (w' := (cells8 L o u S)) C 5 [] [.int x1] (ct_X8_isLearner L o u S v1 x1 e1) kX8_isLearner kvX8_isLearner wl_X8_114 8 0 rfl rfl rfl rfl rfl rfl rfl (Nat.le_of_ble_eq_true rfl) ⟨Nat.le_of_ble_eq_true rfl, Nat.le_of_ble_eq_true rfl⟩ ⟨Nat.zero_le _, Nat.zero_le _⟩ dX8_easiest_2 rfl ?_
  refine g_if_eq C 15 8 dX8_easiest_5 (by decide) rfl (fun c => ?_) (fun c => ?_)
  · have h := ifT c h
    exact J_15 _ _ _ _ h
  · have h := ifF c h
    refine g_iload_n C 9 2 dX8_easiest_8 rfl rfl ?_
    refine bnd h (fun x2 e2 h => ?_)
    refine g_callSr C 12 [] [.int x2] (ct_X8_isHour L v2 x2 e2) kX8_isHour kvX8_isHour wl_X8_126 [] rfl rfl rfl rfl rfl (Nat.le_of_ble_eq_true rfl) ⟨Nat.le_of_ble_eq_true rfl, Nat.le_of_ble_eq_true rfl⟩ ⟨Nat.zero_le _, Nat.zero_le _⟩ dX8_easiest_9 rfl ?_
    refine g_if_ne C 19 15 dX8_easiest_12 (by decide) rfl (fun c => ?_) (fun c => ?_)
    · have h := ifF c h
      refine g_iload_n C 20 3 dX8_easiest_19 rfl rfl ?_
      refine g_iconst C 21 (0 : Int32) dX8_easiest_20 rfl rfl ?_
      refine g_iconst C 22 (1 : Int32) dX8_easiest_21 rfl rfl ?_
      refine bnd h (fun x3 e3 h => ?_)
      refine g_callSr C 25 [] [.int x3] (ct_X8_isIn L v3 (0 : Int32) (1 : Int32) x3 e3) kX8_isIn kvX8_isIn wl_X8_88 [] rfl rfl rfl rfl rfl (Nat.le_of_ble_eq_true rfl) ⟨Nat.le_of_ble_eq_true rfl, Nat.le_of_ble_eq_true rfl⟩ ⟨Nat.zero_le _, Nat.zero_le _⟩ dX8_easiest_22 rfl ?_
      refine g_if_ne C 33 28 dX8_easiest_25 (by decide) rfl (fun c => ?_) (fun c => ?_)
      · have h := ifF c h
        refine g_iconst C 34 (0 : Int32) dX8_easiest_33 rfl rfl ?_
        exact J_34 _ _ _ _ _ h
      · have h := ifT c h
        refine g_bipush C 30 (-2 : Int32) dX8_easiest_28 rfl rfl ?_
        refine g_goto C 34 dX8_easiest_30 (by decide) ?_
        exact J_34 _ _ _ _ _ h
    · have h := ifT c h
      exact J_15 _ _ _ _ h
set_option maxHeartbeats 4000000 in
set_option maxRecDepth 100000 in
theorem ct_X8_passesKnowing (L : LL) (o : Nat) (u : Nat → Nat) (S : OS) (v1 : Int32) (v2 : Int32) (v3 : Int32) (v4 : Int32) (x : (Int32 × OS)) (h : f_X8_passesKnowing S v1 v2 v3 v4 = some x) : Ct L yX8_passesKnowing cX8_passesKnowing 7 (some .boolean) (rmk 7 0 0 166) 0 0 [.ref o, .int v1, .int v2, .int v3, .int v4] (cells8 L o u S) (Pv (some (.int x.1)) (cells8 L o u x.2)) := by
  refine g_enter (lv := [(0, .ref o), (1, .int v1), (2, .int v2), (3, .int v3), (4, .int v4)]) kX8_passesKnowing rfl rfl (Nat.le_of_ble_eq_true rfl) (fun Γ C E hNL => ?_)
  have J_55 : ∀ (v1 : Int32) (v5 : Int32) (s0 : Int32) (S : OS), j_X8_passesKnowing_55   v1 v5 s0 S = some x → G L Γ 0 0 (cells8 L o u S) 55 [(0, .ref o), (1, .int v1), (5, .int v5)] [.int s0] := by
    intro v1 v5 s0 S h
    unfold j_X8_passesKnowing_55 at h
    refine g_istore C 57 6 [(6, .int s0), (0, .ref o), (1, .int v1), (5, .int v5)] dX8_passesKnowing_55 rfl 7 hNL (by decide) rfl ?_
    refine g_aload_n C 58 1 dX8_passesKnowing_57 rfl rfl ?_
    refine g_get (v := .ref (u 6)) C 61 8 0 6 hin_8 rfl rfl (by decide) wf_X8_28 rfl dX8_passesKnowing_58 rfl ?_
    refine g_iload_n C 62 2 dX8_passesKnowing_61 rfl rfl ?_
    refine g_iload C 64 3 dX8_passesKnowing_62 rfl rfl ?_
    refine grdE h (fun hb h => ?_)
    refine g_iast (f := (S.2 6)) (w' := (cells8 L o u (sa S 6 (upd (S.2 6) (v1).toNatClampNeg v5)))) C 65 7 rfl hb dX8_passesKnowing_64 rfl rfl ?_
    refine g_iload C 67 0 dX8_passesKnowing_65 rfl rfl ?_
    refine grdE h (fun hb h => ?_)
    exact g_zret (st := []) C E dX8_passesKnowing_67 hb (by obtain rfl := Option.some.inj h; exact ⟨rfl, rfl⟩)
  unfold f_X8_passesKnowing at h
  refine g_aload_n C 1 0 dX8_passesKnowing_0 rfl rfl ?_
  refine g_get (v := .ref (u 6)) C 4 8 0 6 hin_8 rfl rfl (by decide) wf_X8_28 rfl dX8_passesKnowing_1 rfl ?_
  refine g_iload_n C 5 1 dX8_passesKnowing_4 rfl rfl ?_
  refine grdE h (fun hb h => ?_)
  refine g_iald (f := (S.2 6)) C 6 7 rfl hb dX8_passesKnowing_5 rfl ?_
  refine g_istore C 8 5 [(5, .int ((S.2 6) (v1).toNatClampNeg)), (0, .ref o), (1, .int v1), (2, .int v2), (3, .int v3), (4, .int v4)] dX8_passesKnowing_6 rfl 7 hNL (by decide) rfl ?_
  refine g_aload_n C 9 1 dX8_passesKnowing_8 rfl rfl ?_
  refine g_get (v := .ref (u 6)) C 12 8 0 6 hin_8 rfl rfl (by decide) wf_X8_28 rfl dX8_passesKnowing_9 rfl ?_
  refine g_iload_n C 13 2 dX8_passesKnowing_12 rfl rfl ?_
  refine g_dup2 C 14 dX8_passesKnowing_13 rfl rfl rfl ?_
  refine grdE h (fun hb h => ?_)
  refine g_iald (f := (S.2 6)) C 15 7 rfl hb dX8_passesKnowing_14 rfl ?_
  refine g_iload C 17 5 dX8_passesKnowing_15 rfl rfl ?_
  refine g_ior C 18 dX8_passesKnowing_17 rfl ?_
  refine grdE h (fun hb h => ?_)
  refine g_iast (f := (S.2 6)) (w' := (cells8 L o u (sa S 6 (upd (S.2 6) (v1).toNatClampNeg (((S.2 6) (v1).toNatClampNeg) ||| v4))))) C 19 7 rfl hb dX8_passesKnowing_18 rfl rfl ?_
  refine g_iload_n C 20 3 dX8_passesKnowing_19 rfl rfl ?_
  refine g_if_ge C 48 23 dX8_passesKnowing_20 (by decide) rfl (fun c => ?_) (fun c => ?_)
  · have h := ifT c h
    refine g_aload_n C 49 1 dX8_passesKnowing_48 rfl rfl ?_
    refine g_iload_n C 50 2 dX8_passesKnowing_49 rfl rfl ?_
    refine g_iload_n C 51 3 dX8_passesKnowing_50 rfl rfl ?_
    refine g_iload_n C 52 4 dX8_passesKnowing_51 rfl rfl ?_
    refine bnd h (fun x1 e1 h => ?_)
    refine g_callVs (w' := (cells8 L o u (sa S 6 (upd (S.2 6) (v1).toNatClampNeg (((S.2 6) (v1).toNatClampNeg) ||| v4))))) C 55 [] [.int x1] (ct_X8_passesWay L o u (sa S 6 (upd (S.2 6) (v1).toNatClampNeg (((S.2 6) (v1).toNatClampNeg) ||| v4))) v1 v2 v3 x1 e1) kX8_passesWay kvX8_passesWay wl_X8_185 8 0 rfl rfl rfl rfl rfl rfl rfl (Nat.le_of_ble_eq_true rfl) ⟨Nat.le_of_ble_eq_true rfl, Nat.le_of_ble_eq_true rfl⟩ ⟨Nat.zero_le _, Nat.zero_le _⟩ dX8_passesKnowing_52 rfl ?_
    refine g_lv (lv' := [(0, .ref o), (1, .int v1), (5, .int ((S.2 6) (v1).toNatClampNeg))]) [1, 2, 0] rfl ?_
    exact J_55 _ _ _ _ h
  · have h := ifF c h
    refine g_aload_n C 24 1 dX8_passesKnowing_23 rfl rfl ?_
    refine g_iload_n C 25 2 dX8_passesKnowing_24 rfl rfl ?_
    refine g_iload_n C 26 4 dX8_passesKnowing_25 rfl rfl ?_
    refine bnd h (fun x2 e2 h => ?_)
    refine g_callVs (w' := (cells8 L o u (sa S 6 (upd (S.2 6) (v1).toNatClampNeg (((S.2 6) (v1).toNatClampNeg) ||| v4))))) C 29 [] [.int x2] (ct_X8_passedWays L o u (sa S 6 (upd (S.2 6) (v1).toNatClampNeg (((S.2 6) (v1).toNatClampNeg) ||| v4))) v1 v3 x2 e2) kX8_passedWays kvX8_passedWays wl_X8_209 8 0 rfl rfl rfl rfl rfl rfl rfl (Nat.le_of_ble_eq_true rfl) ⟨Nat.le_of_ble_eq_true rfl, Nat.le_of_ble_eq_true rfl⟩ ⟨Nat.zero_le _, Nat.zero_le _⟩ dX8_passesKnowing_26 rfl ?_
    refine g_iconst C 30 (1 : Int32) dX8_passesKnowing_29 rfl rfl ?_
    refine g_aload_n C 31 1 dX8_passesKnowing_30 rfl rfl ?_
    refine g_get (v := .int (S.1 8)) C 34 8 0 8 hin_8 rfl rfl (by decide) wf_X8_64 rfl dX8_passesKnowing_31 rfl ?_
    refine g_ishl C 35 dX8_passesKnowing_34 rfl ?_
    refine g_iconst C 36 (1 : Int32) dX8_passesKnowing_35 rfl rfl ?_
    refine g_isub C 37 dX8_passesKnowing_36 rfl ?_
    refine g_icmp_ne C 44 40 dX8_passesKnowing_37 (by decide) rfl (fun c => ?_) (fun c => ?_)
    · have h := ifF c h
      refine g_iconst C 45 (0 : Int32) dX8_passesKnowing_44 rfl rfl ?_
      refine g_goto C 55 dX8_passesKnowing_45 (by decide) ?_
      refine g_lv (lv' := [(0, .ref o), (1, .int v1), (5, .int ((S.2 6) (v1).toNatClampNeg))]) [1, 2, 0] rfl ?_
      exact J_55 _ _ _ _ h
    · have h := ifT c h
      refine g_iconst C 41 (1 : Int32) dX8_passesKnowing_40 rfl rfl ?_
      refine g_goto C 55 dX8_passesKnowing_41 (by decide) ?_
      refine g_lv (lv' := [(0, .ref o), (1, .int v1), (5, .int ((S.2 6) (v1).toNatClampNeg))]) [1, 2, 0] rfl ?_
      exact J_55 _ _ _ _ h
set_option maxHeartbeats 4000000 in
set_option maxRecDepth 100000 in
theorem ct_X8_learn (L : LL) (o : Nat) (u : Nat → Nat) (S : OS) (v1 : Int32) (v2 : Int32) (v3 : Int32) (x : (Int32 × OS)) (h : f_X8_learn S v1 v2 v3 = some x) : Ct L yX8_learn cX8_learn 6 (some .int) (rmk 8 0 0 192) 0 0 [.ref o, .int v1, .int v2, .int v3] (cells8 L o u S) (Pv (some (.int x.1)) (cells8 L o u x.2)) := by
  refine g_enter (lv := [(0, .ref o), (1, .int v1), (2, .int v2), (3, .int v3)]) kX8_learn rfl rfl (Nat.le_of_ble_eq_true rfl) (fun Γ C E hNL => ?_)
  have J_41 : ∀ (n : Nat) (v1 : Int32) (v2 : Int32) (v3 : Int32) (v4 : Int32) (v5 : Int32) (S : OS), Lp3 (b_X8_learn_41   v1 v2 v3) n v4 v5 S = some x → G L Γ 0 0 (cells8 L o u S) 41 [(0, .ref o), (1, .int v1), (2, .int v2), (3, .int v3), (4, .int v4), (5, .int v5)] [] := by
    intro n v1 v2 v3
    refine lp_ok3 (fun v4 v5 S => G L Γ 0 0 (cells8 L o u S) 41 [(0, .ref o), (1, .int v1), (2, .int v2), (3, .int v3), (4, .int v4), (5, .int v5)] []) (fun k_41 hk_41 => ?_) n
    have J_101 : ∀ (v4 : Int32) (v5 : Int32) (S : OS), j_X8_learn_101  k_41 v1 v2 v3 v4 v5 S = some x → G L Γ 0 0 (cells8 L o u S) 101 [(0, .ref o), (1, .int v1), (2, .int v2), (3, .int v3), (4, .int v4), (5, .int v5)] [] := by
      intro v4 v5 S h
      unfold j_X8_learn_101 at h
      refine g_iinc C 104 (1 : Int32) 5 [(5, .int (v5 + (1 : Int32))), (0, .ref o), (1, .int v1), (2, .int v2), (3, .int v3), (4, .int v4)] dX8_learn_101 rfl rfl 6 hNL (by decide) rfl rfl ?_
      refine g_goto C 41 dX8_learn_104 (by decide) ?_
      refine g_lv (lv' := [(0, .ref o), (1, .int v1), (2, .int v2), (3, .int v3), (4, .int v4), (5, .int (v5 + (1 : Int32)))]) [1, 2, 3, 4, 5, 0] rfl ?_
      exact hk_41 _ _ _ h
    have J_85 : ∀ (v4 : Int32) (v5 : Int32) (S : OS), j_X8_learn_85  k_41 v1 v2 v3 v4 v5 S = some x → G L Γ 0 0 (cells8 L o u S) 85 [(0, .ref o), (1, .int v1), (2, .int v2), (3, .int v3), (4, .int v4), (5, .int v5)] [] := by
      intro v4 v5 S h
      unfold j_X8_learn_85 at h
      refine g_aload_n C 86 0 dX8_learn_85 rfl rfl ?_
      refine g_iload_n C 87 1 dX8_learn_86 rfl rfl ?_
      refine g_iload_n C 88 2 dX8_learn_87 rfl rfl ?_
      refine g_iload_n C 89 3 dX8_learn_88 rfl rfl ?_
      refine g_iload C 91 5 dX8_learn_89 rfl rfl ?_
      refine bnd h (fun x9 e9 h => ?_)
      refine g_callVs (w' := (cells8 L o u x9.2)) C 94 [] [.int x9.1] (ct_X8_passesKnowing L o u S v1 v2 v3 v5 x9 e9) kX8_passesKnowing kvX8_passesKnowing wl_X8_215 8 0 rfl rfl rfl rfl rfl rfl rfl (Nat.le_of_ble_eq_true rfl) ⟨Nat.le_of_ble_eq_true rfl, Nat.le_of_ble_eq_true rfl⟩ ⟨Nat.zero_le _, Nat.zero_le _⟩ dX8_learn_91 rfl ?_
      refine g_if_eq C 101 97 dX8_learn_94 (by decide) rfl (fun c => ?_) (fun c => ?_)
      · have h := ifT c h
        exact J_101 _ _ _ h
      · have h := ifF c h
        refine g_iload C 99 5 dX8_learn_97 rfl rfl ?_
        refine g_istore C 101 4 [(4, .int v5), (0, .ref o), (1, .int v1), (2, .int v2), (3, .int v3), (5, .int v5)] dX8_learn_99 rfl 6 hNL (by decide) rfl ?_
        refine g_lv (lv' := [(0, .ref o), (1, .int v1), (2, .int v2), (3, .int v3), (4, .int v5), (5, .int v5)]) [1, 2, 3, 4, 0, 5] rfl ?_
        exact J_101 _ _ _ h
    intro v4 v5 S h
    unfold b_X8_learn_41 at h
    refine g_iload C 43 5 dX8_learn_41 rfl rfl ?_
    refine g_iconst C 44 (1 : Int32) dX8_learn_43 rfl rfl ?_
    refine g_aload_n C 45 0 dX8_learn_44 rfl rfl ?_
    refine g_get (v := .int (S.1 7)) C 48 8 0 7 hin_8 rfl rfl (by decide) wf_X8_61 rfl dX8_learn_45 rfl ?_
    refine g_ishl C 49 dX8_learn_48 rfl ?_
    refine g_icmp_ge C 107 52 dX8_learn_49 (by decide) rfl (fun c => ?_) (fun c => ?_)
    · have h := ifT c h
      refine g_iload C 109 4 dX8_learn_107 rfl rfl ?_
      exact g_iret (st := []) C E dX8_learn_109 (by obtain rfl := Option.some.inj h; exact ⟨rfl, rfl⟩)
    · have h := ifF c h
      refine g_iload C 54 5 dX8_learn_52 rfl rfl ?_
      refine g_aload_n C 55 0 dX8_learn_54 rfl rfl ?_
      refine g_get (v := .ref (u 6)) C 58 8 0 6 hin_8 rfl rfl (by decide) wf_X8_28 rfl dX8_learn_55 rfl ?_
      refine g_iload_n C 59 1 dX8_learn_58 rfl rfl ?_
      refine grdE h (fun hb h => ?_)
      refine g_iald (f := (S.2 6)) C 60 7 rfl hb dX8_learn_59 rfl ?_
      refine g_iand C 61 dX8_learn_60 rfl ?_
      refine g_if_ne C 101 64 dX8_learn_61 (by decide) rfl (fun c => ?_) (fun c => ?_)
      · have h := ifF c h
        exact J_101 _ _ _ h
      · have h := ifT c h
        refine g_iload C 66 4 dX8_learn_64 rfl rfl ?_
        refine g_if_lt C 85 69 dX8_learn_66 (by decide) rfl (fun c => ?_) (fun c => ?_)
        · have h := ifT c h
          exact J_85 _ _ _ h
        · have h := ifF c h
          refine g_iload C 71 5 dX8_learn_69 rfl rfl ?_
          refine bnd h (fun x7 e7 h => ?_)
          refine g_callSr C 74 [] [.int x7] (ct_X8_bits L v5 x7 e7) kX8_bits kvX8_bits wl_X8_212 [] rfl rfl rfl rfl rfl (Nat.le_of_ble_eq_true rfl) ⟨Nat.le_of_ble_eq_true rfl, Nat.le_of_ble_eq_true rfl⟩ ⟨Nat.zero_le _, Nat.zero_le _⟩ dX8_learn_71 rfl ?_
          refine g_iload C 76 4 dX8_learn_74 rfl rfl ?_
          refine bnd h (fun x8 e8 h => ?_)
          refine g_callSr C 79 [.int x7] [.int x8, .int x7] (ct_X8_bits L v4 x8 e8) kX8_bits kvX8_bits wl_X8_212 [] rfl rfl rfl rfl rfl (Nat.le_of_ble_eq_true rfl) ⟨Nat.le_of_ble_eq_true rfl, Nat.le_of_ble_eq_true rfl⟩ ⟨Nat.zero_le _, Nat.zero_le _⟩ dX8_learn_76 rfl ?_
          refine g_icmp_lt C 85 82 dX8_learn_79 (by decide) rfl (fun c => ?_) (fun c => ?_)
          · have h := ifT c h
            exact J_85 _ _ _ h
          · have h := ifF c h
            refine g_goto C 101 dX8_learn_82 (by decide) ?_
            exact J_101 _ _ _ h
  have J_21 : ∀ (v1 : Int32) (v2 : Int32) (v3 : Int32) (S : OS), j_X8_learn_21   v1 v2 v3 S = some x → G L Γ 0 0 (cells8 L o u S) 21 [(0, .ref o), (1, .int v1), (2, .int v2), (3, .int v3)] [] := by
    intro v1 v2 v3 S h
    unfold j_X8_learn_21 at h
    refine g_iload_n C 22 3 dX8_learn_21 rfl rfl ?_
    refine bnd h (fun x5 e5 h => ?_)
    refine g_callSr C 25 [] [.int x5] (ct_X8_isHour L v3 x5 e5) kX8_isHour kvX8_isHour wl_X8_126 [] rfl rfl rfl rfl rfl (Nat.le_of_ble_eq_true rfl) ⟨Nat.le_of_ble_eq_true rfl, Nat.le_of_ble_eq_true rfl⟩ ⟨Nat.zero_le _, Nat.zero_le _⟩ dX8_learn_22 rfl ?_
    refine g_if_ne C 34 28 dX8_learn_25 (by decide) rfl (fun c => ?_) (fun c => ?_)
    · have h := ifF c h
      refine g_bipush C 36 (-9 : Int32) dX8_learn_34 rfl rfl ?_
      refine g_istore C 38 4 [(4, .int (-9 : Int32)), (0, .ref o), (1, .int v1), (2, .int v2), (3, .int v3)] dX8_learn_36 rfl 6 hNL (by decide) rfl ?_
      refine g_iconst C 39 (0 : Int32) dX8_learn_38 rfl rfl ?_
      refine g_istore C 41 5 [(5, .int (0 : Int32)), (4, .int (-9 : Int32)), (0, .ref o), (1, .int v1), (2, .int v2), (3, .int v3)] dX8_learn_39 rfl 6 hNL (by decide) rfl ?_
      refine g_lv (lv' := [(0, .ref o), (1, .int v1), (2, .int v2), (3, .int v3), (4, .int (-9 : Int32)), (5, .int (0 : Int32))]) [2, 3, 4, 5, 1, 0] rfl ?_
      exact J_41 _ _ _ _ _ _ _ h
    · have h := ifT c h
      refine g_aload_n C 29 0 dX8_learn_28 rfl rfl ?_
      refine g_iconst C 30 (-1 : Int32) dX8_learn_29 rfl rfl ?_
      refine bnd h (fun x6 e6 h => ?_)
      refine g_callVs (w' := (cells8 L o u x6.2)) C 33 [] [.int x6.1] (ct_X8_no L o u S (-1 : Int32) x6 e6) kX8_no kvX8_no wl_X8_77 8 0 rfl rfl rfl rfl rfl rfl rfl (Nat.le_of_ble_eq_true rfl) ⟨Nat.le_of_ble_eq_true rfl, Nat.le_of_ble_eq_true rfl⟩ ⟨Nat.zero_le _, Nat.zero_le _⟩ dX8_learn_30 rfl ?_
      exact g_iret (st := []) C E dX8_learn_33 (by obtain rfl := Option.some.inj h; exact ⟨rfl, rfl⟩)
  unfold f_X8_learn at h
  refine g_aload_n C 1 0 dX8_learn_0 rfl rfl ?_
  refine g_iload_n C 2 1 dX8_learn_1 rfl rfl ?_
  refine bnd h (fun x1 e1 h => ?_)
  refine g_callVs (w' := (cells8 L o u S)) C 5 [] [.int x1] (ct_X8_isLearner L o u S v1 x1 e1) kX8_isLearner kvX8_isLearner wl_X8_114 8 0 rfl rfl rfl rfl rfl rfl rfl (Nat.le_of_ble_eq_true rfl) ⟨Nat.le_of_ble_eq_true rfl, Nat.le_of_ble_eq_true rfl⟩ ⟨Nat.zero_le _, Nat.zero_le _⟩ dX8_learn_2 rfl ?_
  refine g_if_eq C 28 8 dX8_learn_5 (by decide) rfl (fun c => ?_) (fun c => ?_)
  · have h := ifT c h
    refine g_aload_n C 29 0 dX8_learn_28 rfl rfl ?_
    refine g_iconst C 30 (-1 : Int32) dX8_learn_29 rfl rfl ?_
    refine bnd h (fun x2 e2 h => ?_)
    refine g_callVs (w' := (cells8 L o u x2.2)) C 33 [] [.int x2.1] (ct_X8_no L o u S (-1 : Int32) x2 e2) kX8_no kvX8_no wl_X8_77 8 0 rfl rfl rfl rfl rfl rfl rfl (Nat.le_of_ble_eq_true rfl) ⟨Nat.le_of_ble_eq_true rfl, Nat.le_of_ble_eq_true rfl⟩ ⟨Nat.zero_le _, Nat.zero_le _⟩ dX8_learn_30 rfl ?_
    exact g_iret (st := []) C E dX8_learn_33 (by obtain rfl := Option.some.inj h; exact ⟨rfl, rfl⟩)
  · have h := ifF c h
    refine g_iload_n C 9 2 dX8_learn_8 rfl rfl ?_
    refine g_iconst C 10 (-1 : Int32) dX8_learn_9 rfl rfl ?_
    refine g_icmp_eq C 21 13 dX8_learn_10 (by decide) rfl (fun c => ?_) (fun c => ?_)
    · have h := ifT c h
      exact J_21 _ _ _ _ h
    · have h := ifF c h
      refine g_aload_n C 14 0 dX8_learn_13 rfl rfl ?_
      refine g_iload_n C 15 2 dX8_learn_14 rfl rfl ?_
      refine bnd h (fun x3 e3 h => ?_)
      refine g_callVs (w' := (cells8 L o u S)) C 18 [] [.int x3] (ct_X8_isWay L o u S v2 x3 e3) kX8_isWay kvX8_isWay wl_X8_120 8 0 rfl rfl rfl rfl rfl rfl rfl (Nat.le_of_ble_eq_true rfl) ⟨Nat.le_of_ble_eq_true rfl, Nat.le_of_ble_eq_true rfl⟩ ⟨Nat.zero_le _, Nat.zero_le _⟩ dX8_learn_15 rfl ?_
      refine g_if_eq C 28 21 dX8_learn_18 (by decide) rfl (fun c => ?_) (fun c => ?_)
      · have h := ifT c h
        refine g_aload_n C 29 0 dX8_learn_28 rfl rfl ?_
        refine g_iconst C 30 (-1 : Int32) dX8_learn_29 rfl rfl ?_
        refine bnd h (fun x4 e4 h => ?_)
        refine g_callVs (w' := (cells8 L o u x4.2)) C 33 [] [.int x4.1] (ct_X8_no L o u S (-1 : Int32) x4 e4) kX8_no kvX8_no wl_X8_77 8 0 rfl rfl rfl rfl rfl rfl rfl (Nat.le_of_ble_eq_true rfl) ⟨Nat.le_of_ble_eq_true rfl, Nat.le_of_ble_eq_true rfl⟩ ⟨Nat.zero_le _, Nat.zero_le _⟩ dX8_learn_30 rfl ?_
        exact g_iret (st := []) C E dX8_learn_33 (by obtain rfl := Option.some.inj h; exact ⟨rfl, rfl⟩)
      · have h := ifF c h
        exact J_21 _ _ _ _ h
set_option maxHeartbeats 4000000 in
set_option maxRecDepth 100000 in
theorem ct_X8_divisor (L : LL) (v0 : Int64) (v2 : Int64) (x : Int64) (h : f_X8_divisor v0 v2 = some x) : Ct L yX8_divisor cX8_divisor 10 (some .long) (rmk 0 0 0 0) 0 0 [.long v0, .long v2] [] (Pv (some (.long x)) []) := by
  refine g_enter (lv := [(0, .long v0), (2, .long v2)]) kX8_divisor rfl rfl (Nat.le_of_ble_eq_true rfl) (fun Γ C E hNL => ?_)
  have J_6 : ∀ (n : Nat)  (v4 : Int64) (v6 : Int64), Lp2 (b_X8_divisor_6   ) n v4 v6 = some x → G L Γ 0 0 [] 6 [(4, .long v4), (6, .long v6)] [] := by
    intro n 
    refine lp_ok2 (fun v4 v6 => G L Γ 0 0 [] 6 [(4, .long v4), (6, .long v6)] []) (fun k_6 hk_6 => ?_) n
    intro v4 v6 h
    unfold b_X8_divisor_6 at h
    refine g_lload C 8 1 dX8_divisor_6 rfl rfl ?_
    refine g_lconst C 9 (0 : Int64) dX8_divisor_8 rfl rfl ?_
    refine g_lcmp C 10 dX8_divisor_9 rfl ?_
    refine g_if_eq C 31 13 dX8_divisor_10 (by decide) rfl (fun c => ?_) (fun c => ?_)
    · have h := ifT c h
      refine g_lload C 33 0 dX8_divisor_31 rfl rfl ?_
      exact g_lret (st := []) C E dX8_divisor_33 (by obtain rfl := Option.some.inj h; exact ⟨rfl, rfl⟩)
    · have h := ifF c h
      refine g_lload C 15 0 dX8_divisor_13 rfl rfl ?_
      refine g_lload C 17 1 dX8_divisor_15 rfl rfl ?_
      refine grdL h (fun hne h => ?_)
      refine g_lrem C 18 dX8_divisor_17 rfl hne ?_
      refine g_lstore C 20 8 [(8, .long (remL v4 v6)), (4, .long v4), (6, .long v6)] dX8_divisor_18 rfl 10 hNL (by decide) rfl ?_
      refine g_lload C 22 2 dX8_divisor_20 rfl rfl ?_
      refine g_lstore C 24 4 [(4, .long v6), (8, .long (remL v4 v6)), (6, .long v6)] dX8_divisor_22 rfl 10 hNL (by decide) rfl ?_
      refine g_lload C 26 1 dX8_divisor_24 rfl rfl ?_
      refine g_lstore C 28 6 [(6, .long (remL v4 v6)), (4, .long v6), (8, .long (remL v4 v6))] dX8_divisor_26 rfl 10 hNL (by decide) rfl ?_
      refine g_goto C 6 dX8_divisor_28 (by decide) ?_
      refine g_lv (lv' := [(4, .long v6), (6, .long (remL v4 v6))]) [1, 0] rfl ?_
      exact hk_6 _ _ h
  unfold f_X8_divisor at h
  refine g_lload_n C 1 0 dX8_divisor_0 rfl rfl ?_
  refine g_lstore C 3 4 [(4, .long v0), (0, .long v0), (2, .long v2)] dX8_divisor_1 rfl 10 hNL (by decide) rfl ?_
  refine g_lload_n C 4 2 dX8_divisor_3 rfl rfl ?_
  refine g_lstore C 6 6 [(6, .long v2), (4, .long v0), (0, .long v0), (2, .long v2)] dX8_divisor_4 rfl 10 hNL (by decide) rfl ?_
  refine g_lv (lv' := [(4, .long v0), (6, .long v2)]) [1, 0] rfl ?_
  exact J_6 _ _ _ h
set_option maxHeartbeats 4000000 in
set_option maxRecDepth 100000 in
theorem ct_X8_partOf (L : LL) (v0 : Int64) (v2 : Int64) (v4 : Int32) (x : Int64) (h : f_X8_partOf v0 v2 v4 = some x) : Ct L yX8_partOf cX8_partOf 5 (some .long) (rmk 1 0 0 29) 0 0 [.long v0, .long v2, .int v4] [] (Pv (some (.long x)) []) := by
  refine g_enter (lv := [(0, .long v0), (2, .long v2), (4, .int v4)]) kX8_partOf rfl rfl (Nat.le_of_ble_eq_true rfl) (fun Γ C E hNL => ?_)
  unfold f_X8_partOf at h
  refine g_iload C 2 2 dX8_partOf_0 rfl rfl ?_
  refine g_if_ne C 9 5 dX8_partOf_2 (by decide) rfl (fun c => ?_) (fun c => ?_)
  · have h := ifF c h
    refine g_lload_n C 10 1 dX8_partOf_9 rfl rfl ?_
    refine g_lload_n C 11 0 dX8_partOf_10 rfl rfl ?_
    refine g_lload_n C 12 1 dX8_partOf_11 rfl rfl ?_
    refine bnd h (fun x1 e1 h => ?_)
    refine g_callSr C 15 [.long v2] [.long x1, .long v2] (ct_X8_divisor L v0 v2 x1 e1) kX8_divisor kvX8_divisor wl_X8_219 [] rfl rfl rfl rfl rfl (Nat.le_of_ble_eq_true rfl) ⟨Nat.le_of_ble_eq_true rfl, Nat.le_of_ble_eq_true rfl⟩ ⟨Nat.zero_le _, Nat.zero_le _⟩ dX8_partOf_12 rfl ?_
    refine grdL h (fun hne h => ?_)
    refine g_ldiv C 16 dX8_partOf_15 rfl hne ?_
    exact g_lret (st := []) C E dX8_partOf_16 (by obtain rfl := Option.some.inj h; exact ⟨rfl, rfl⟩)
  · have h := ifT c h
    refine g_lload_n C 6 0 dX8_partOf_5 rfl rfl ?_
    refine g_goto C 10 dX8_partOf_6 (by decide) ?_
    refine g_lload_n C 11 0 dX8_partOf_10 rfl rfl ?_
    refine g_lload_n C 12 1 dX8_partOf_11 rfl rfl ?_
    refine bnd h (fun x2 e2 h => ?_)
    refine g_callSr C 15 [.long v0] [.long x2, .long v0] (ct_X8_divisor L v0 v2 x2 e2) kX8_divisor kvX8_divisor wl_X8_219 [] rfl rfl rfl rfl rfl (Nat.le_of_ble_eq_true rfl) ⟨Nat.le_of_ble_eq_true rfl, Nat.le_of_ble_eq_true rfl⟩ ⟨Nat.zero_le _, Nat.zero_le _⟩ dX8_partOf_12 rfl ?_
    refine grdL h (fun hne h => ?_)
    refine g_ldiv C 16 dX8_partOf_15 rfl hne ?_
    exact g_lret (st := []) C E dX8_partOf_16 (by obtain rfl := Option.some.inj h; exact ⟨rfl, rfl⟩)
set_option maxHeartbeats 4000000 in
set_option maxRecDepth 100000 in
theorem ct_X8_drawnWay (L : LL) (o : Nat) (u : Nat → Nat) (S : OS) (v1 : Int32) (v2 : Int32) (v3 : Int32) (x : (Int64 × OS)) (h : f_X8_drawnWay S v1 v2 v3 = some x) : Ct L yX8_drawnWay cX8_drawnWay 5 (some .long) (rmk 7 0 0 166) 0 0 [.ref o, .int v1, .int v2, .int v3] (cells8 L o u S) (Pv (some (.long x.1)) (cells8 L o u x.2)) := by
  refine g_enter (lv := [(0, .ref o), (1, .int v1), (2, .int v2), (3, .int v3)]) kX8_drawnWay rfl rfl (Nat.le_of_ble_eq_true rfl) (fun Γ C E hNL => ?_)
  have J_34 : ∀ (v1 : Int32) (v2 : Int32) (v3 : Int32) (s0 : Int32) (S : OS), j_X8_drawnWay_34   v1 v2 v3 s0 S = some x → G L Γ 0 0 (cells8 L o u S) 34 [(0, .ref o), (1, .int v1), (2, .int v2), (3, .int v3)] [.int s0] := by
    intro v1 v2 v3 s0 S h
    unfold j_X8_drawnWay_34 at h
    refine g_istore C 36 4 [(4, .int s0), (0, .ref o), (1, .int v1), (2, .int v2), (3, .int v3)] dX8_drawnWay_34 rfl 5 hNL (by decide) rfl ?_
    refine g_iload C 38 0 dX8_drawnWay_36 rfl rfl ?_
    refine g_if_eq C 48 41 dX8_drawnWay_38 (by decide) rfl (fun c => ?_) (fun c => ?_)
    · have h := ifT c h
      refine g_aload_n C 49 1 dX8_drawnWay_48 rfl rfl ?_
      refine g_get (v := .int (S.1 8)) C 52 8 0 8 hin_8 rfl rfl (by decide) wf_X8_64 rfl dX8_drawnWay_49 rfl ?_
      refine g_if_ne C 60 55 dX8_drawnWay_52 (by decide) rfl (fun c => ?_) (fun c => ?_)
      · have h := ifF c h
        refine g_aload_n C 61 1 dX8_drawnWay_60 rfl rfl ?_
        refine g_iload_n C 62 2 dX8_drawnWay_61 rfl rfl ?_
        refine g_iload_n C 63 3 dX8_drawnWay_62 rfl rfl ?_
        refine bnd h (fun x4 e4 h => ?_)
        refine g_callVs (w' := (cells8 L o u S)) C 66 [] [.int x4] (ct_X8_passedWays L o u S v1 v2 x4 e4) kX8_passedWays kvX8_passedWays wl_X8_209 8 0 rfl rfl rfl rfl rfl rfl rfl (Nat.le_of_ble_eq_true rfl) ⟨Nat.le_of_ble_eq_true rfl, Nat.le_of_ble_eq_true rfl⟩ ⟨Nat.zero_le _, Nat.zero_le _⟩ dX8_drawnWay_63 rfl ?_
        refine bnd h (fun x5 e5 h => ?_)
        refine g_callSr C 69 [] [.int x5] (ct_X8_bits L x4 x5 e5) kX8_bits kvX8_bits wl_X8_212 [] rfl rfl rfl rfl rfl (Nat.le_of_ble_eq_true rfl) ⟨Nat.le_of_ble_eq_true rfl, Nat.le_of_ble_eq_true rfl⟩ ⟨Nat.zero_le _, Nat.zero_le _⟩ dX8_drawnWay_66 rfl ?_
        refine g_i2l C 70 dX8_drawnWay_69 rfl ?_
        refine g_aload_n C 71 1 dX8_drawnWay_70 rfl rfl ?_
        refine g_get (v := .int (S.1 8)) C 74 8 0 8 hin_8 rfl rfl (by decide) wf_X8_64 rfl dX8_drawnWay_71 rfl ?_
        refine g_i2l C 75 dX8_drawnWay_74 rfl ?_
        refine g_iload_n C 76 4 dX8_drawnWay_75 rfl rfl ?_
        refine bnd h (fun x6 e6 h => ?_)
        refine g_callSr C 79 [] [.long x6] (ct_X8_partOf L ((x5).toInt64) (((S.1 8)).toInt64) v3 x6 e6) kX8_partOf kvX8_partOf wl_X8_227 [] rfl rfl rfl rfl rfl (Nat.le_of_ble_eq_true rfl) ⟨Nat.le_of_ble_eq_true rfl, Nat.le_of_ble_eq_true rfl⟩ ⟨Nat.zero_le _, Nat.zero_le _⟩ dX8_drawnWay_76 rfl ?_
        exact g_lret (st := []) C E dX8_drawnWay_79 (by obtain rfl := Option.some.inj h; exact ⟨rfl, rfl⟩)
      · have h := ifT c h
        refine g_iload_n C 56 4 dX8_drawnWay_55 rfl rfl ?_
        refine g_i2l C 57 dX8_drawnWay_56 rfl ?_
        refine g_goto C 79 dX8_drawnWay_57 (by decide) ?_
        exact g_lret (st := []) C E dX8_drawnWay_79 (by obtain rfl := Option.some.inj h; exact ⟨rfl, rfl⟩)
    · have h := ifF c h
      refine g_aload_n C 42 1 dX8_drawnWay_41 rfl rfl ?_
      refine g_iload C 44 0 dX8_drawnWay_42 rfl rfl ?_
      refine bnd h (fun x7 e7 h => ?_)
      refine g_callVs (w' := (cells8 L o u x7.2)) C 47 [] [.long x7.1] (ct_X8_lowest L o u S s0 x7 e7) kX8_lowest kvX8_lowest wl_X8_223 8 0 rfl rfl rfl rfl rfl rfl rfl (Nat.le_of_ble_eq_true rfl) ⟨Nat.le_of_ble_eq_true rfl, Nat.le_of_ble_eq_true rfl⟩ ⟨Nat.zero_le _, Nat.zero_le _⟩ dX8_drawnWay_44 rfl ?_
      exact g_lret (st := []) C E dX8_drawnWay_47 (by obtain rfl := Option.some.inj h; exact ⟨rfl, rfl⟩)
  have J_15 : ∀ (v1 : Int32) (v2 : Int32) (v3 : Int32) (S : OS), j_X8_drawnWay_15   v1 v2 v3 S = some x → G L Γ 0 0 (cells8 L o u S) 15 [(0, .ref o), (1, .int v1), (2, .int v2), (3, .int v3)] [] := by
    intro v1 v2 v3 S h
    unfold j_X8_drawnWay_15 at h
    refine g_iconst C 16 (-1 : Int32) dX8_drawnWay_15 rfl rfl ?_
    refine g_goto C 34 dX8_drawnWay_16 (by decide) ?_
    exact J_34 _ _ _ _ _ h
  unfold f_X8_drawnWay at h
  refine g_aload_n C 1 0 dX8_drawnWay_0 rfl rfl ?_
  refine g_iload_n C 2 1 dX8_drawnWay_1 rfl rfl ?_
  refine bnd h (fun x1 e1 h => ?_)
  refine g_callVs (w' := (cells8 L o u S)) C 5 [] [.int x1] (ct_X8_isLearner L o u S v1 x1 e1) kX8_isLearner kvX8_isLearner wl_X8_114 8 0 rfl rfl rfl rfl rfl rfl rfl (Nat.le_of_ble_eq_true rfl) ⟨Nat.le_of_ble_eq_true rfl, Nat.le_of_ble_eq_true rfl⟩ ⟨Nat.zero_le _, Nat.zero_le _⟩ dX8_drawnWay_2 rfl ?_
  refine g_if_eq C 15 8 dX8_drawnWay_5 (by decide) rfl (fun c => ?_) (fun c => ?_)
  · have h := ifT c h
    exact J_15 _ _ _ _ h
  · have h := ifF c h
    refine g_iload_n C 9 2 dX8_drawnWay_8 rfl rfl ?_
    refine bnd h (fun x2 e2 h => ?_)
    refine g_callSr C 12 [] [.int x2] (ct_X8_isHour L v2 x2 e2) kX8_isHour kvX8_isHour wl_X8_126 [] rfl rfl rfl rfl rfl (Nat.le_of_ble_eq_true rfl) ⟨Nat.le_of_ble_eq_true rfl, Nat.le_of_ble_eq_true rfl⟩ ⟨Nat.zero_le _, Nat.zero_le _⟩ dX8_drawnWay_9 rfl ?_
    refine g_if_ne C 19 15 dX8_drawnWay_12 (by decide) rfl (fun c => ?_) (fun c => ?_)
    · have h := ifF c h
      refine g_iload_n C 20 3 dX8_drawnWay_19 rfl rfl ?_
      refine g_iconst C 21 (0 : Int32) dX8_drawnWay_20 rfl rfl ?_
      refine g_iconst C 22 (1 : Int32) dX8_drawnWay_21 rfl rfl ?_
      refine bnd h (fun x3 e3 h => ?_)
      refine g_callSr C 25 [] [.int x3] (ct_X8_isIn L v3 (0 : Int32) (1 : Int32) x3 e3) kX8_isIn kvX8_isIn wl_X8_88 [] rfl rfl rfl rfl rfl (Nat.le_of_ble_eq_true rfl) ⟨Nat.le_of_ble_eq_true rfl, Nat.le_of_ble_eq_true rfl⟩ ⟨Nat.zero_le _, Nat.zero_le _⟩ dX8_drawnWay_22 rfl ?_
      refine g_if_ne C 33 28 dX8_drawnWay_25 (by decide) rfl (fun c => ?_) (fun c => ?_)
      · have h := ifF c h
        refine g_iconst C 34 (0 : Int32) dX8_drawnWay_33 rfl rfl ?_
        exact J_34 _ _ _ _ _ h
      · have h := ifT c h
        refine g_bipush C 30 (-2 : Int32) dX8_drawnWay_28 rfl rfl ?_
        refine g_goto C 34 dX8_drawnWay_30 (by decide) ?_
        exact J_34 _ _ _ _ _ h
    · have h := ifT c h
      exact J_15 _ _ _ _ h
set_option maxHeartbeats 4000000 in
set_option maxRecDepth 100000 in
theorem ct_X8_alike (L : LL) (o : Nat) (u : Nat → Nat) (S : OS) (v1 : Int32) (v2 : Int32) (x : (Int32 × OS)) (h : f_X8_alike S v1 v2 = some x) : Ct L yX8_alike cX8_alike 3 (some .int) (rmk 1 0 0 22) 0 0 [.ref o, .int v1, .int v2] (cells8 L o u S) (Pv (some (.int x.1)) (cells8 L o u x.2)) := by
  refine g_enter (lv := [(0, .ref o), (1, .int v1), (2, .int v2)]) kX8_alike rfl rfl (Nat.le_of_ble_eq_true rfl) (fun Γ C E hNL => ?_)
  unfold f_X8_alike at h
  refine g_aload_n C 1 0 dX8_alike_0 rfl rfl ?_
  refine g_iload_n C 2 1 dX8_alike_1 rfl rfl ?_
  refine bnd h (fun x1 e1 h => ?_)
  refine g_callVs (w' := (cells8 L o u S)) C 5 [] [.int x1] (ct_X8_isWay L o u S v1 x1 e1) kX8_isWay kvX8_isWay wl_X8_120 8 0 rfl rfl rfl rfl rfl rfl rfl (Nat.le_of_ble_eq_true rfl) ⟨Nat.le_of_ble_eq_true rfl, Nat.le_of_ble_eq_true rfl⟩ ⟨Nat.zero_le _, Nat.zero_le _⟩ dX8_alike_2 rfl ?_
  refine g_if_eq C 21 8 dX8_alike_5 (by decide) rfl (fun c => ?_) (fun c => ?_)
  · have h := ifT c h
    refine g_aload_n C 22 0 dX8_alike_21 rfl rfl ?_
    refine g_iconst C 23 (-1 : Int32) dX8_alike_22 rfl rfl ?_
    refine bnd h (fun x2 e2 h => ?_)
    refine g_callVs (w' := (cells8 L o u x2.2)) C 26 [] [.int x2.1] (ct_X8_no L o u S (-1 : Int32) x2 e2) kX8_no kvX8_no wl_X8_77 8 0 rfl rfl rfl rfl rfl rfl rfl (Nat.le_of_ble_eq_true rfl) ⟨Nat.le_of_ble_eq_true rfl, Nat.le_of_ble_eq_true rfl⟩ ⟨Nat.zero_le _, Nat.zero_le _⟩ dX8_alike_23 rfl ?_
    exact g_iret (st := []) C E dX8_alike_26 (by obtain rfl := Option.some.inj h; exact ⟨rfl, rfl⟩)
  · have h := ifF c h
    refine g_aload_n C 9 0 dX8_alike_8 rfl rfl ?_
    refine g_iload_n C 10 2 dX8_alike_9 rfl rfl ?_
    refine bnd h (fun x3 e3 h => ?_)
    refine g_callVs (w' := (cells8 L o u S)) C 13 [] [.int x3] (ct_X8_isWay L o u S v2 x3 e3) kX8_isWay kvX8_isWay wl_X8_120 8 0 rfl rfl rfl rfl rfl rfl rfl (Nat.le_of_ble_eq_true rfl) ⟨Nat.le_of_ble_eq_true rfl, Nat.le_of_ble_eq_true rfl⟩ ⟨Nat.zero_le _, Nat.zero_le _⟩ dX8_alike_10 rfl ?_
    refine g_if_eq C 21 16 dX8_alike_13 (by decide) rfl (fun c => ?_) (fun c => ?_)
    · have h := ifT c h
      refine g_aload_n C 22 0 dX8_alike_21 rfl rfl ?_
      refine g_iconst C 23 (-1 : Int32) dX8_alike_22 rfl rfl ?_
      refine bnd h (fun x4 e4 h => ?_)
      refine g_callVs (w' := (cells8 L o u x4.2)) C 26 [] [.int x4.1] (ct_X8_no L o u S (-1 : Int32) x4 e4) kX8_no kvX8_no wl_X8_77 8 0 rfl rfl rfl rfl rfl rfl rfl (Nat.le_of_ble_eq_true rfl) ⟨Nat.le_of_ble_eq_true rfl, Nat.le_of_ble_eq_true rfl⟩ ⟨Nat.zero_le _, Nat.zero_le _⟩ dX8_alike_23 rfl ?_
      exact g_iret (st := []) C E dX8_alike_26 (by obtain rfl := Option.some.inj h; exact ⟨rfl, rfl⟩)
    · have h := ifF c h
      refine g_iload_n C 17 1 dX8_alike_16 rfl rfl ?_
      refine g_iload_n C 18 2 dX8_alike_17 rfl rfl ?_
      refine g_icmp_ne C 27 21 dX8_alike_18 (by decide) rfl (fun c => ?_) (fun c => ?_)
      · have h := ifF c h
        refine g_aload_n C 28 0 dX8_alike_27 rfl rfl ?_
        refine g_get (v := .ref (u 4)) C 31 8 0 4 hin_8 rfl rfl (by decide) wf_X8_22 rfl dX8_alike_28 rfl ?_
        refine g_iload_n C 32 1 dX8_alike_31 rfl rfl ?_
        refine grdE h (fun hb h => ?_)
        refine g_iald (f := (S.2 4)) C 33 5 rfl hb dX8_alike_32 rfl ?_
        refine g_aload_n C 34 0 dX8_alike_33 rfl rfl ?_
        refine g_get (v := .ref (u 4)) C 37 8 0 4 hin_8 rfl rfl (by decide) wf_X8_22 rfl dX8_alike_34 rfl ?_
        refine g_iload_n C 38 2 dX8_alike_37 rfl rfl ?_
        refine grdE h (fun hb h => ?_)
        refine g_iald (f := (S.2 4)) C 39 5 rfl hb dX8_alike_38 rfl ?_
        refine g_iand C 40 dX8_alike_39 rfl ?_
        refine bnd h (fun x5 e5 h => ?_)
        refine g_callSr C 43 [] [.int x5] (ct_X8_bits L (((S.2 4) (v1).toNatClampNeg) &&& ((S.2 4) (v2).toNatClampNeg)) x5 e5) kX8_bits kvX8_bits wl_X8_212 [] rfl rfl rfl rfl rfl (Nat.le_of_ble_eq_true rfl) ⟨Nat.le_of_ble_eq_true rfl, Nat.le_of_ble_eq_true rfl⟩ ⟨Nat.zero_le _, Nat.zero_le _⟩ dX8_alike_40 rfl ?_
        exact g_iret (st := []) C E dX8_alike_43 (by obtain rfl := Option.some.inj h; exact ⟨rfl, rfl⟩)
      · have h := ifT c h
        refine g_aload_n C 22 0 dX8_alike_21 rfl rfl ?_
        refine g_iconst C 23 (-1 : Int32) dX8_alike_22 rfl rfl ?_
        refine bnd h (fun x6 e6 h => ?_)
        refine g_callVs (w' := (cells8 L o u x6.2)) C 26 [] [.int x6.1] (ct_X8_no L o u S (-1 : Int32) x6 e6) kX8_no kvX8_no wl_X8_77 8 0 rfl rfl rfl rfl rfl rfl rfl (Nat.le_of_ble_eq_true rfl) ⟨Nat.le_of_ble_eq_true rfl, Nat.le_of_ble_eq_true rfl⟩ ⟨Nat.zero_le _, Nat.zero_le _⟩ dX8_alike_23 rfl ?_
        exact g_iret (st := []) C E dX8_alike_26 (by obtain rfl := Option.some.inj h; exact ⟨rfl, rfl⟩)
set_option maxHeartbeats 4000000 in
set_option maxRecDepth 100000 in
theorem ct_X8_mostAlike (L : LL) (o : Nat) (u : Nat → Nat) (S : OS) (x : Int32) (h : f_X8_mostAlike S = some x) : Ct L yX8_mostAlike cX8_mostAlike 5 (some .int) (rmk 1 0 0 22) 0 0 [.ref o] (cells8 L o u S) (Pv (some (.int x)) (cells8 L o u S)) := by
  refine g_enter (lv := [(0, .ref o)]) kX8_mostAlike rfl rfl (Nat.le_of_ble_eq_true rfl) (fun Γ C E hNL => ?_)
  have J_8 : ∀ (n : Nat)  (v1 : Int32) (v2 : Int32) (v3 : Int32), Lp3 (b_X8_mostAlike_8 S  ) n v1 v2 v3 = some x → G L Γ 0 0 (cells8 L o u S) 8 [(0, .ref o), (1, .int v1), (2, .int v2), (3, .int v3)] [] := by
    intro n 
    refine lp_ok3 (fun v1 v2 v3 => G L Γ 0 0 (cells8 L o u S) 8 [(0, .ref o), (1, .int v1), (2, .int v2), (3, .int v3)] []) (fun k_8 hk_8 => ?_) n
    have J_86 : ∀ (v1 : Int32) (v2 : Int32) (v3 : Int32), j_X8_mostAlike_86 S k_8 v1 v2 v3 = some x → G L Γ 0 0 (cells8 L o u S) 86 [(0, .ref o), (1, .int v1), (2, .int v2), (3, .int v3)] [] := by
      intro v1 v2 v3 h
      unfold j_X8_mostAlike_86 at h
      refine g_iinc C 89 (1 : Int32) 3 [(3, .int (v3 + (1 : Int32))), (0, .ref o), (1, .int v1), (2, .int v2)] dX8_mostAlike_86 rfl rfl 5 hNL (by decide) rfl rfl ?_
      refine g_goto C 8 dX8_mostAlike_89 (by decide) ?_
      refine g_lv (lv' := [(0, .ref o), (1, .int v1), (2, .int v2), (3, .int (v3 + (1 : Int32)))]) [1, 2, 3, 0] rfl ?_
      exact hk_8 _ _ _ h
    have J_21 : ∀ (n : Nat) (v3 : Int32) (v1 : Int32) (v2 : Int32) (v4 : Int32), Lp3 (b_X8_mostAlike_21 S k_8 v3) n v1 v2 v4 = some x → G L Γ 0 0 (cells8 L o u S) 21 [(0, .ref o), (1, .int v1), (2, .int v2), (3, .int v3), (4, .int v4)] [] := by
      intro n v3
      refine lp_ok3 (fun v1 v2 v4 => G L Γ 0 0 (cells8 L o u S) 21 [(0, .ref o), (1, .int v1), (2, .int v2), (3, .int v3), (4, .int v4)] []) (fun k_21 hk_21 => ?_) n
      have J_80 : ∀ (v1 : Int32) (v2 : Int32) (v4 : Int32), j_X8_mostAlike_80 S k_8 k_21 v1 v2 v3 v4 = some x → G L Γ 0 0 (cells8 L o u S) 80 [(0, .ref o), (1, .int v1), (2, .int v2), (3, .int v3), (4, .int v4)] [] := by
        intro v1 v2 v4 h
        unfold j_X8_mostAlike_80 at h
        refine g_iinc C 83 (1 : Int32) 4 [(4, .int (v4 + (1 : Int32))), (0, .ref o), (1, .int v1), (2, .int v2), (3, .int v3)] dX8_mostAlike_80 rfl rfl 5 hNL (by decide) rfl rfl ?_
        refine g_goto C 21 dX8_mostAlike_83 (by decide) ?_
        refine g_lv (lv' := [(0, .ref o), (1, .int v1), (2, .int v2), (3, .int v3), (4, .int (v4 + (1 : Int32)))]) [1, 2, 3, 4, 0] rfl ?_
        exact hk_21 _ _ _ h
      intro v1 v2 v4 h
      unfold b_X8_mostAlike_21 at h
      refine g_iload C 23 4 dX8_mostAlike_21 rfl rfl ?_
      refine g_aload_n C 24 0 dX8_mostAlike_23 rfl rfl ?_
      refine g_get (v := .int (S.1 8)) C 27 8 0 8 hin_8 rfl rfl (by decide) wf_X8_64 rfl dX8_mostAlike_24 rfl ?_
      refine g_icmp_ge C 86 30 dX8_mostAlike_27 (by decide) rfl (fun c => ?_) (fun c => ?_)
      · have h := ifT c h
        refine g_lv (lv' := [(0, .ref o), (1, .int v1), (2, .int v2), (3, .int v3)]) [0, 1, 2, 3] rfl ?_
        exact J_86 _ _ _ h
      · have h := ifF c h
        refine g_aload_n C 31 0 dX8_mostAlike_30 rfl rfl ?_
        refine g_get (v := .ref (u 4)) C 34 8 0 4 hin_8 rfl rfl (by decide) wf_X8_22 rfl dX8_mostAlike_31 rfl ?_
        refine g_iload_n C 35 3 dX8_mostAlike_34 rfl rfl ?_
        refine grdE h (fun hb h => ?_)
        refine g_iald (f := (S.2 4)) C 36 5 rfl hb dX8_mostAlike_35 rfl ?_
        refine g_aload_n C 37 0 dX8_mostAlike_36 rfl rfl ?_
        refine g_get (v := .ref (u 4)) C 40 8 0 4 hin_8 rfl rfl (by decide) wf_X8_22 rfl dX8_mostAlike_37 rfl ?_
        refine g_iload C 42 4 dX8_mostAlike_40 rfl rfl ?_
        refine grdE h (fun hb h => ?_)
        refine g_iald (f := (S.2 4)) C 43 5 rfl hb dX8_mostAlike_42 rfl ?_
        refine g_iand C 44 dX8_mostAlike_43 rfl ?_
        refine bnd h (fun x1 e1 h => ?_)
        refine g_callSr C 47 [] [.int x1] (ct_X8_bits L (((S.2 4) (v3).toNatClampNeg) &&& ((S.2 4) (v4).toNatClampNeg)) x1 e1) kX8_bits kvX8_bits wl_X8_212 [] rfl rfl rfl rfl rfl (Nat.le_of_ble_eq_true rfl) ⟨Nat.le_of_ble_eq_true rfl, Nat.le_of_ble_eq_true rfl⟩ ⟨Nat.zero_le _, Nat.zero_le _⟩ dX8_mostAlike_44 rfl ?_
        refine g_iload_n C 48 2 dX8_mostAlike_47 rfl rfl ?_
        refine g_icmp_gt C 54 51 dX8_mostAlike_48 (by decide) rfl (fun c => ?_) (fun c => ?_)
        · have h := ifT c h
          refine g_bipush C 56 (10 : Int32) dX8_mostAlike_54 rfl rfl ?_
          refine g_iload_n C 57 3 dX8_mostAlike_56 rfl rfl ?_
          refine g_imul C 58 dX8_mostAlike_57 rfl ?_
          refine g_iload C 60 4 dX8_mostAlike_58 rfl rfl ?_
          refine g_iadd C 61 dX8_mostAlike_60 rfl ?_
          refine g_istore_n C 62 1 [(1, .int (((10 : Int32) * v3) + v4)), (0, .ref o), (2, .int v2), (3, .int v3), (4, .int v4)] dX8_mostAlike_61 rfl rfl 5 hNL (by decide) rfl ?_
          refine g_aload_n C 63 1 dX8_mostAlike_62 rfl rfl ?_
          refine g_get (v := .ref (u 4)) C 66 8 0 4 hin_8 rfl rfl (by decide) wf_X8_22 rfl dX8_mostAlike_63 rfl ?_
          refine g_iload_n C 67 3 dX8_mostAlike_66 rfl rfl ?_
          refine grdE h (fun hb h => ?_)
          refine g_iald (f := (S.2 4)) C 68 5 rfl hb dX8_mostAlike_67 rfl ?_
          refine g_aload_n C 69 1 dX8_mostAlike_68 rfl rfl ?_
          refine g_get (v := .ref (u 4)) C 72 8 0 4 hin_8 rfl rfl (by decide) wf_X8_22 rfl dX8_mostAlike_69 rfl ?_
          refine g_iload C 74 4 dX8_mostAlike_72 rfl rfl ?_
          refine grdE h (fun hb h => ?_)
          refine g_iald (f := (S.2 4)) C 75 5 rfl hb dX8_mostAlike_74 rfl ?_
          refine g_iand C 76 dX8_mostAlike_75 rfl ?_
          refine bnd h (fun x2 e2 h => ?_)
          refine g_callSr C 79 [] [.int x2] (ct_X8_bits L (((S.2 4) (v3).toNatClampNeg) &&& ((S.2 4) (v4).toNatClampNeg)) x2 e2) kX8_bits kvX8_bits wl_X8_212 [] rfl rfl rfl rfl rfl (Nat.le_of_ble_eq_true rfl) ⟨Nat.le_of_ble_eq_true rfl, Nat.le_of_ble_eq_true rfl⟩ ⟨Nat.zero_le _, Nat.zero_le _⟩ dX8_mostAlike_76 rfl ?_
          refine g_istore_n C 80 2 [(2, .int x2), (1, .int (((10 : Int32) * v3) + v4)), (0, .ref o), (3, .int v3), (4, .int v4)] dX8_mostAlike_79 rfl rfl 5 hNL (by decide) rfl ?_
          refine g_lv (lv' := [(0, .ref o), (1, .int (((10 : Int32) * v3) + v4)), (2, .int x2), (3, .int v3), (4, .int v4)]) [2, 1, 0, 3, 4] rfl ?_
          exact J_80 _ _ _ h
        · have h := ifF c h
          refine g_goto C 80 dX8_mostAlike_51 (by decide) ?_
          exact J_80 _ _ _ h
    intro v1 v2 v3 h
    unfold b_X8_mostAlike_8 at h
    refine g_iload_n C 9 3 dX8_mostAlike_8 rfl rfl ?_
    refine g_aload_n C 10 0 dX8_mostAlike_9 rfl rfl ?_
    refine g_get (v := .int (S.1 8)) C 13 8 0 8 hin_8 rfl rfl (by decide) wf_X8_64 rfl dX8_mostAlike_10 rfl ?_
    refine g_icmp_ge C 92 16 dX8_mostAlike_13 (by decide) rfl (fun c => ?_) (fun c => ?_)
    · have h := ifT c h
      refine g_iload_n C 93 1 dX8_mostAlike_92 rfl rfl ?_
      exact g_iret (st := []) C E dX8_mostAlike_93 (by obtain rfl := Option.some.inj h; exact ⟨rfl, rfl⟩)
    · have h := ifF c h
      refine g_iload_n C 17 3 dX8_mostAlike_16 rfl rfl ?_
      refine g_iconst C 18 (1 : Int32) dX8_mostAlike_17 rfl rfl ?_
      refine g_iadd C 19 dX8_mostAlike_18 rfl ?_
      refine g_istore C 21 4 [(4, .int (v3 + (1 : Int32))), (0, .ref o), (1, .int v1), (2, .int v2), (3, .int v3)] dX8_mostAlike_19 rfl 5 hNL (by decide) rfl ?_
      refine g_lv (lv' := [(0, .ref o), (1, .int v1), (2, .int v2), (3, .int v3), (4, .int (v3 + (1 : Int32)))]) [1, 2, 3, 4, 0] rfl ?_
      exact J_21 _ _ _ _ _ h
  unfold f_X8_mostAlike at h
  refine g_bipush C 2 (-9 : Int32) dX8_mostAlike_0 rfl rfl ?_
  refine g_istore_n C 3 1 [(1, .int (-9 : Int32)), (0, .ref o)] dX8_mostAlike_2 rfl rfl 5 hNL (by decide) rfl ?_
  refine g_bipush C 5 (-9 : Int32) dX8_mostAlike_3 rfl rfl ?_
  refine g_istore_n C 6 2 [(2, .int (-9 : Int32)), (1, .int (-9 : Int32)), (0, .ref o)] dX8_mostAlike_5 rfl rfl 5 hNL (by decide) rfl ?_
  refine g_iconst C 7 (0 : Int32) dX8_mostAlike_6 rfl rfl ?_
  refine g_istore_n C 8 3 [(3, .int (0 : Int32)), (2, .int (-9 : Int32)), (1, .int (-9 : Int32)), (0, .ref o)] dX8_mostAlike_7 rfl rfl 5 hNL (by decide) rfl ?_
  refine g_lv (lv' := [(0, .ref o), (1, .int (-9 : Int32)), (2, .int (-9 : Int32)), (3, .int (0 : Int32))]) [3, 2, 1, 0] rfl ?_
  exact J_8 _ _ _ _ h
set_option maxHeartbeats 4000000 in
set_option maxRecDepth 100000 in
theorem ct_X8_mostApart (L : LL) (o : Nat) (u : Nat → Nat) (S : OS) (v1 : Int32) (v2 : Int32) (x : Int32) (h : f_X8_mostApart S v1 v2 = some x) : Ct L yX8_mostApart cX8_mostApart 7 (some .int) (rmk 3 0 0 70) 0 0 [.ref o, .int v1, .int v2] (cells8 L o u S) (Pv (some (.int x)) (cells8 L o u S)) := by
  refine g_enter (lv := [(0, .ref o), (1, .int v1), (2, .int v2)]) kX8_mostApart rfl rfl (Nat.le_of_ble_eq_true rfl) (fun Γ C E hNL => ?_)
  have J_5 : ∀ (n : Nat) (v1 : Int32) (v2 : Int32) (v3 : Int32) (v4 : Int32), Lp2 (b_X8_mostApart_5 S  v1 v2) n v3 v4 = some x → G L Γ 0 0 (cells8 L o u S) 5 [(0, .ref o), (1, .int v1), (2, .int v2), (3, .int v3), (4, .int v4)] [] := by
    intro n v1 v2
    refine lp_ok2 (fun v3 v4 => G L Γ 0 0 (cells8 L o u S) 5 [(0, .ref o), (1, .int v1), (2, .int v2), (3, .int v3), (4, .int v4)] []) (fun k_5 hk_5 => ?_) n
    have J_96 : ∀ (v3 : Int32) (v4 : Int32), j_X8_mostApart_96 S k_5 v1 v2 v3 v4 = some x → G L Γ 0 0 (cells8 L o u S) 96 [(0, .ref o), (1, .int v1), (2, .int v2), (3, .int v3), (4, .int v4)] [] := by
      intro v3 v4 h
      unfold j_X8_mostApart_96 at h
      refine g_iinc C 99 (1 : Int32) 4 [(4, .int (v4 + (1 : Int32))), (0, .ref o), (1, .int v1), (2, .int v2), (3, .int v3)] dX8_mostApart_96 rfl rfl 7 hNL (by decide) rfl rfl ?_
      refine g_goto C 5 dX8_mostApart_99 (by decide) ?_
      refine g_lv (lv' := [(0, .ref o), (1, .int v1), (2, .int v2), (3, .int v3), (4, .int (v4 + (1 : Int32)))]) [1, 2, 3, 4, 0] rfl ?_
      exact hk_5 _ _ h
    have J_17 : ∀ (n : Nat) (v4 : Int32) (v3 : Int32) (v5 : Int32), Lp2 (b_X8_mostApart_17 S k_5 v1 v2 v4) n v3 v5 = some x → G L Γ 0 0 (cells8 L o u S) 17 [(0, .ref o), (1, .int v1), (2, .int v2), (3, .int v3), (4, .int v4), (5, .int v5)] [] := by
      intro n v4
      refine lp_ok2 (fun v3 v5 => G L Γ 0 0 (cells8 L o u S) 17 [(0, .ref o), (1, .int v1), (2, .int v2), (3, .int v3), (4, .int v4), (5, .int v5)] []) (fun k_17 hk_17 => ?_) n
      have J_89 : ∀ (v5 : Int32) (s0 : Int32), j_X8_mostApart_89 S k_5 k_17 v1 v2 v4 v5 s0 = some x → G L Γ 0 0 (cells8 L o u S) 89 [(0, .ref o), (1, .int v1), (2, .int v2), (4, .int v4), (5, .int v5)] [.int s0] := by
        intro v5 s0 h
        unfold j_X8_mostApart_89 at h
        refine g_istore_n C 90 3 [(3, .int s0), (0, .ref o), (1, .int v1), (2, .int v2), (4, .int v4), (5, .int v5)] dX8_mostApart_89 rfl rfl 7 hNL (by decide) rfl ?_
        refine g_iinc C 93 (1 : Int32) 5 [(5, .int (v5 + (1 : Int32))), (3, .int s0), (0, .ref o), (1, .int v1), (2, .int v2), (4, .int v4)] dX8_mostApart_90 rfl rfl 7 hNL (by decide) rfl rfl ?_
        refine g_goto C 17 dX8_mostApart_93 (by decide) ?_
        refine g_lv (lv' := [(0, .ref o), (1, .int v1), (2, .int v2), (3, .int s0), (4, .int v4), (5, .int (v5 + (1 : Int32)))]) [2, 3, 4, 1, 5, 0] rfl ?_
        exact hk_17 _ _ h
      have J_75 : ∀ (v3 : Int32) (v5 : Int32) (s0 : Int32), j_X8_mostApart_75 S k_5 k_17 v1 v2 v3 v4 v5 s0 = some x → G L Γ 0 0 (cells8 L o u S) 75 [(0, .ref o), (1, .int v1), (2, .int v2), (3, .int v3), (4, .int v4), (5, .int v5)] [.int s0] := by
        intro v3 v5 s0 h
        unfold j_X8_mostApart_75 at h
        refine g_istore C 77 6 [(6, .int s0), (0, .ref o), (1, .int v1), (2, .int v2), (3, .int v3), (4, .int v4), (5, .int v5)] dX8_mostApart_75 rfl 7 hNL (by decide) rfl ?_
        refine g_iload C 79 0 dX8_mostApart_77 rfl rfl ?_
        refine g_iload_n C 80 4 dX8_mostApart_79 rfl rfl ?_
        refine g_icmp_le C 88 83 dX8_mostApart_80 (by decide) rfl (fun c => ?_) (fun c => ?_)
        · have h := ifT c h
          refine g_iload_n C 89 4 dX8_mostApart_88 rfl rfl ?_
          refine g_lv (lv' := [(0, .ref o), (1, .int v1), (2, .int v2), (4, .int v4), (5, .int v5)]) [1, 2, 3, 5, 6] rfl ?_
          exact J_89 _ _ h
        · have h := ifF c h
          refine g_iload C 85 0 dX8_mostApart_83 rfl rfl ?_
          refine g_goto C 89 dX8_mostApart_85 (by decide) ?_
          refine g_lv (lv' := [(0, .ref o), (1, .int v1), (2, .int v2), (4, .int v4), (5, .int v5)]) [1, 2, 3, 5, 6] rfl ?_
          exact J_89 _ _ h
      have J_74 : ∀ (v3 : Int32) (v5 : Int32), j_X8_mostApart_74 S k_5 k_17 v1 v2 v3 v4 v5 = some x → G L Γ 0 0 (cells8 L o u S) 74 [(0, .ref o), (1, .int v1), (2, .int v2), (3, .int v3), (4, .int v4), (5, .int v5)] [] := by
        intro v3 v5 h
        unfold j_X8_mostApart_74 at h
        refine g_iconst C 75 (0 : Int32) dX8_mostApart_74 rfl rfl ?_
        exact J_75 _ _ _ h
      intro v3 v5 h
      unfold b_X8_mostApart_17 at h
      refine g_iload C 19 5 dX8_mostApart_17 rfl rfl ?_
      refine g_aload_n C 20 0 dX8_mostApart_19 rfl rfl ?_
      refine g_get (v := .int (S.1 8)) C 23 8 0 8 hin_8 rfl rfl (by decide) wf_X8_64 rfl dX8_mostApart_20 rfl ?_
      refine g_icmp_ge C 96 26 dX8_mostApart_23 (by decide) rfl (fun c => ?_) (fun c => ?_)
      · have h := ifT c h
        refine g_lv (lv' := [(0, .ref o), (1, .int v1), (2, .int v2), (3, .int v3), (4, .int v4)]) [0, 1, 2, 3, 4] rfl ?_
        exact J_96 _ _ h
      · have h := ifF c h
        refine g_iload_n C 27 1 dX8_mostApart_26 rfl rfl ?_
        refine g_iload C 29 4 dX8_mostApart_27 rfl rfl ?_
        refine bnd h (fun x1 e1 h => ?_)
        refine g_callSr C 32 [] [.int x1] (ct_X8_has L v1 v4 x1 e1) kX8_has kvX8_has wl_X8_173 [] rfl rfl rfl rfl rfl (Nat.le_of_ble_eq_true rfl) ⟨Nat.le_of_ble_eq_true rfl, Nat.le_of_ble_eq_true rfl⟩ ⟨Nat.zero_le _, Nat.zero_le _⟩ dX8_mostApart_29 rfl ?_
        refine g_if_eq C 74 35 dX8_mostApart_32 (by decide) rfl (fun c => ?_) (fun c => ?_)
        · have h := ifT c h
          exact J_74 _ _ h
        · have h := ifF c h
          refine g_iload_n C 36 1 dX8_mostApart_35 rfl rfl ?_
          refine g_iload C 38 5 dX8_mostApart_36 rfl rfl ?_
          refine bnd h (fun x2 e2 h => ?_)
          refine g_callSr C 41 [] [.int x2] (ct_X8_has L v1 v5 x2 e2) kX8_has kvX8_has wl_X8_173 [] rfl rfl rfl rfl rfl (Nat.le_of_ble_eq_true rfl) ⟨Nat.le_of_ble_eq_true rfl, Nat.le_of_ble_eq_true rfl⟩ ⟨Nat.zero_le _, Nat.zero_le _⟩ dX8_mostApart_38 rfl ?_
          refine g_if_eq C 74 44 dX8_mostApart_41 (by decide) rfl (fun c => ?_) (fun c => ?_)
          · have h := ifT c h
            exact J_74 _ _ h
          · have h := ifF c h
            refine g_aload_n C 45 0 dX8_mostApart_44 rfl rfl ?_
            refine g_aload_n C 46 0 dX8_mostApart_45 rfl rfl ?_
            refine g_get (v := .ref (u 4)) C 49 8 0 4 hin_8 rfl rfl (by decide) wf_X8_22 rfl dX8_mostApart_46 rfl ?_
            refine g_iload C 51 4 dX8_mostApart_49 rfl rfl ?_
            refine grdE h (fun hb h => ?_)
            refine g_iald (f := (S.2 4)) C 52 5 rfl hb dX8_mostApart_51 rfl ?_
            refine g_iload_n C 53 2 dX8_mostApart_52 rfl rfl ?_
            refine bnd h (fun x3 e3 h => ?_)
            refine g_callVs (w' := (cells8 L o u S)) C 56 [] [.int x3] (ct_X8_hardOn L o u S ((S.2 4) (v4).toNatClampNeg) v2 x3 e3) kX8_hardOn kvX8_hardOn wl_X8_197 8 0 rfl rfl rfl rfl rfl rfl rfl (Nat.le_of_ble_eq_true rfl) ⟨Nat.le_of_ble_eq_true rfl, Nat.le_of_ble_eq_true rfl⟩ ⟨Nat.zero_le _, Nat.zero_le _⟩ dX8_mostApart_53 rfl ?_
            refine g_aload_n C 57 0 dX8_mostApart_56 rfl rfl ?_
            refine g_aload_n C 58 0 dX8_mostApart_57 rfl rfl ?_
            refine g_get (v := .ref (u 4)) C 61 8 0 4 hin_8 rfl rfl (by decide) wf_X8_22 rfl dX8_mostApart_58 rfl ?_
            refine g_iload C 63 5 dX8_mostApart_61 rfl rfl ?_
            refine grdE h (fun hb h => ?_)
            refine g_iald (f := (S.2 4)) C 64 5 rfl hb dX8_mostApart_63 rfl ?_
            refine g_iload_n C 65 2 dX8_mostApart_64 rfl rfl ?_
            refine bnd h (fun x4 e4 h => ?_)
            refine g_callVs (w' := (cells8 L o u S)) C 68 [.int x3] [.int x4, .int x3] (ct_X8_hardOn L o u S ((S.2 4) (v5).toNatClampNeg) v2 x4 e4) kX8_hardOn kvX8_hardOn wl_X8_197 8 0 rfl rfl rfl rfl rfl rfl rfl (Nat.le_of_ble_eq_true rfl) ⟨Nat.le_of_ble_eq_true rfl, Nat.le_of_ble_eq_true rfl⟩ ⟨Nat.zero_le _, Nat.zero_le _⟩ dX8_mostApart_65 rfl ?_
            refine bnd h (fun x5 e5 h => ?_)
            refine g_callSr C 71 [] [.int x5] (ct_X8_apart L x3 x4 x5 e5) kX8_apart kvX8_apart wl_X8_231 [] rfl rfl rfl rfl rfl (Nat.le_of_ble_eq_true rfl) ⟨Nat.le_of_ble_eq_true rfl, Nat.le_of_ble_eq_true rfl⟩ ⟨Nat.zero_le _, Nat.zero_le _⟩ dX8_mostApart_68 rfl ?_
            refine g_goto C 75 dX8_mostApart_71 (by decide) ?_
            exact J_75 _ _ _ h
    intro v3 v4 h
    unfold b_X8_mostApart_5 at h
    refine g_iload C 7 4 dX8_mostApart_5 rfl rfl ?_
    refine g_aload_n C 8 0 dX8_mostApart_7 rfl rfl ?_
    refine g_get (v := .int (S.1 8)) C 11 8 0 8 hin_8 rfl rfl (by decide) wf_X8_64 rfl dX8_mostApart_8 rfl ?_
    refine g_icmp_ge C 102 14 dX8_mostApart_11 (by decide) rfl (fun c => ?_) (fun c => ?_)
    · have h := ifT c h
      refine g_iload_n C 103 3 dX8_mostApart_102 rfl rfl ?_
      exact g_iret (st := []) C E dX8_mostApart_103 (by obtain rfl := Option.some.inj h; exact ⟨rfl, rfl⟩)
    · have h := ifF c h
      refine g_iconst C 15 (0 : Int32) dX8_mostApart_14 rfl rfl ?_
      refine g_istore C 17 5 [(5, .int (0 : Int32)), (0, .ref o), (1, .int v1), (2, .int v2), (3, .int v3), (4, .int v4)] dX8_mostApart_15 rfl 7 hNL (by decide) rfl ?_
      refine g_lv (lv' := [(0, .ref o), (1, .int v1), (2, .int v2), (3, .int v3), (4, .int v4), (5, .int (0 : Int32))]) [1, 2, 3, 4, 5, 0] rfl ?_
      exact J_17 _ _ _ _ h
  unfold f_X8_mostApart at h
  refine g_iconst C 1 (0 : Int32) dX8_mostApart_0 rfl rfl ?_
  refine g_istore_n C 2 3 [(3, .int (0 : Int32)), (0, .ref o), (1, .int v1), (2, .int v2)] dX8_mostApart_1 rfl rfl 7 hNL (by decide) rfl ?_
  refine g_iconst C 3 (0 : Int32) dX8_mostApart_2 rfl rfl ?_
  refine g_istore C 5 4 [(4, .int (0 : Int32)), (3, .int (0 : Int32)), (0, .ref o), (1, .int v1), (2, .int v2)] dX8_mostApart_3 rfl 7 hNL (by decide) rfl ?_
  refine g_lv (lv' := [(0, .ref o), (1, .int v1), (2, .int v2), (3, .int (0 : Int32)), (4, .int (0 : Int32))]) [2, 3, 4, 1, 0] rfl ?_
  exact J_5 _ _ _ _ _ h
set_option maxHeartbeats 4000000 in
set_option maxRecDepth 100000 in
theorem ct_X8_fair (L : LL) (o : Nat) (u : Nat → Nat) (S : OS) (v1 : Int32) (v2 : Int32) (x : (Int32 × OS)) (h : f_X8_fair S v1 v2 = some x) : Ct L yX8_fair cX8_fair 6 (some .int) (rmk 4 0 0 96) 0 0 [.ref o, .int v1, .int v2] (cells8 L o u S) (Pv (some (.int x.1)) (cells8 L o u x.2)) := by
  refine g_enter (lv := [(0, .ref o), (1, .int v1), (2, .int v2)]) kX8_fair rfl rfl (Nat.le_of_ble_eq_true rfl) (fun Γ C E hNL => ?_)
  have J_54 : ∀ (n : Nat) (v1 : Int32) (v2 : Int32) (S : OS) (v4 : Int32) (v5 : Int32), Lp2 (b_X8_fair_54   v1 v2 S) n v4 v5 = some x → G L Γ 0 0 (cells8 L o u S) 54 [(0, .ref o), (1, .int v1), (2, .int v2), (4, .int v4), (5, .int v5)] [] := by
    intro n v1 v2 S
    refine lp_ok2 (fun v4 v5 => G L Γ 0 0 (cells8 L o u S) 54 [(0, .ref o), (1, .int v1), (2, .int v2), (4, .int v4), (5, .int v5)] []) (fun k_54 hk_54 => ?_) n
    have J_100 : ∀ (v4 : Int32) (v5 : Int32), j_X8_fair_100  k_54 v1 v2 v4 v5 S = some x → G L Γ 0 0 (cells8 L o u S) 100 [(0, .ref o), (1, .int v1), (2, .int v2), (4, .int v4), (5, .int v5)] [] := by
      intro v4 v5 h
      unfold j_X8_fair_100 at h
      refine g_iinc C 103 (1 : Int32) 4 [(5, .int (v5 + (1 : Int32))), (0, .ref o), (1, .int v1), (2, .int v2), (4, .int v4)] dX8_fair_100 rfl rfl 6 hNL (by decide) rfl rfl ?_
      refine g_goto C 54 dX8_fair_103 (by decide) ?_
      refine g_lv (lv' := [(0, .ref o), (1, .int v1), (2, .int v2), (4, .int v4), (5, .int (v5 + (1 : Int32)))]) [1, 2, 3, 4, 0] rfl ?_
      exact hk_54 _ _ h
    have J_96 : ∀ (v5 : Int32), j_X8_fair_96  k_54 v1 v2 v5 S = some x → G L Γ 0 0 (cells8 L o u S) 96 [(0, .ref o), (1, .int v1), (2, .int v2), (5, .int v5)] [] := by
      intro v5 h
      unfold j_X8_fair_96 at h
      refine g_iload C 98 3 dX8_fair_96 rfl rfl ?_
      refine g_istore C 100 4 [(4, .int v5), (0, .ref o), (1, .int v1), (2, .int v2), (5, .int v5)] dX8_fair_98 rfl 6 hNL (by decide) rfl ?_
      refine g_lv (lv' := [(0, .ref o), (1, .int v1), (2, .int v2), (4, .int v5), (5, .int v5)]) [1, 2, 3, 0, 4] rfl ?_
      exact J_100 _ _ h
    intro v4 v5 h
    unfold b_X8_fair_54 at h
    refine g_iload C 56 4 dX8_fair_54 rfl rfl ?_
    refine g_iconst C 57 (1 : Int32) dX8_fair_56 rfl rfl ?_
    refine g_aload_n C 58 0 dX8_fair_57 rfl rfl ?_
    refine g_get (v := .int (S.1 8)) C 61 8 0 8 hin_8 rfl rfl (by decide) wf_X8_64 rfl dX8_fair_58 rfl ?_
    refine g_ishl C 62 dX8_fair_61 rfl ?_
    refine g_icmp_ge C 106 65 dX8_fair_62 (by decide) rfl (fun c => ?_) (fun c => ?_)
    · have h := ifT c h
      refine g_iload C 108 3 dX8_fair_106 rfl rfl ?_
      exact g_iret (st := []) C E dX8_fair_108 (by obtain rfl := Option.some.inj h; exact ⟨rfl, rfl⟩)
    · have h := ifF c h
      refine g_iload C 67 4 dX8_fair_65 rfl rfl ?_
      refine bnd h (fun x5 e5 h => ?_)
      refine g_callSr C 70 [] [.int x5] (ct_X8_bits L v5 x5 e5) kX8_bits kvX8_bits wl_X8_212 [] rfl rfl rfl rfl rfl (Nat.le_of_ble_eq_true rfl) ⟨Nat.le_of_ble_eq_true rfl, Nat.le_of_ble_eq_true rfl⟩ ⟨Nat.zero_le _, Nat.zero_le _⟩ dX8_fair_67 rfl ?_
      refine g_iload_n C 71 2 dX8_fair_70 rfl rfl ?_
      refine g_icmp_ne C 100 74 dX8_fair_71 (by decide) rfl (fun c => ?_) (fun c => ?_)
      · have h := ifF c h
        exact J_100 _ _ h
      · have h := ifT c h
        refine g_iload C 76 3 dX8_fair_74 rfl rfl ?_
        refine g_if_lt C 96 79 dX8_fair_76 (by decide) rfl (fun c => ?_) (fun c => ?_)
        · have h := ifT c h
          refine g_lv (lv' := [(0, .ref o), (1, .int v1), (2, .int v2), (5, .int v5)]) [0, 1, 2, 4] rfl ?_
          exact J_96 _ h
        · have h := ifF c h
          refine g_aload_n C 80 0 dX8_fair_79 rfl rfl ?_
          refine g_iload C 82 4 dX8_fair_80 rfl rfl ?_
          refine g_iload_n C 83 1 dX8_fair_82 rfl rfl ?_
          refine bnd h (fun x6 e6 h => ?_)
          refine g_callVs (w' := (cells8 L o u S)) C 86 [] [.int x6] (ct_X8_mostApart L o u S v5 v1 x6 e6) kX8_mostApart kvX8_mostApart wl_X8_234 8 0 rfl rfl rfl rfl rfl rfl rfl (Nat.le_of_ble_eq_true rfl) ⟨Nat.le_of_ble_eq_true rfl, Nat.le_of_ble_eq_true rfl⟩ ⟨Nat.zero_le _, Nat.zero_le _⟩ dX8_fair_83 rfl ?_
          refine g_aload_n C 87 0 dX8_fair_86 rfl rfl ?_
          refine g_iload C 89 3 dX8_fair_87 rfl rfl ?_
          refine g_iload_n C 90 1 dX8_fair_89 rfl rfl ?_
          refine bnd h (fun x7 e7 h => ?_)
          refine g_callVs (w' := (cells8 L o u S)) C 93 [.int x6] [.int x7, .int x6] (ct_X8_mostApart L o u S v4 v1 x7 e7) kX8_mostApart kvX8_mostApart wl_X8_234 8 0 rfl rfl rfl rfl rfl rfl rfl (Nat.le_of_ble_eq_true rfl) ⟨Nat.le_of_ble_eq_true rfl, Nat.le_of_ble_eq_true rfl⟩ ⟨Nat.zero_le _, Nat.zero_le _⟩ dX8_fair_90 rfl ?_
          refine g_icmp_ge C 100 96 dX8_fair_93 (by decide) rfl (fun c => ?_) (fun c => ?_)
          · have h := ifT c h
            exact J_100 _ _ h
          · have h := ifF c h
            refine g_lv (lv' := [(0, .ref o), (1, .int v1), (2, .int v2), (5, .int v5)]) [0, 1, 2, 4] rfl ?_
            exact J_96 _ h
  have J_18 : ∀ (v1 : Int32) (v2 : Int32) (s0 : Int32) (S : OS), j_X8_fair_18   v1 v2 s0 S = some x → G L Γ 0 0 (cells8 L o u S) 18 [(0, .ref o), (1, .int v1), (2, .int v2)] [.int s0] := by
    intro v1 v2 s0 S h
    unfold j_X8_fair_18 at h
    refine g_istore_n C 19 3 [(3, .int s0), (0, .ref o), (1, .int v1), (2, .int v2)] dX8_fair_18 rfl rfl 6 hNL (by decide) rfl ?_
    refine g_iload_n C 20 0 dX8_fair_19 rfl rfl ?_
    refine g_if_eq C 29 23 dX8_fair_20 (by decide) rfl (fun c => ?_) (fun c => ?_)
    · have h := ifT c h
      refine g_iload_n C 30 3 dX8_fair_29 rfl rfl ?_
      refine g_if_ne C 47 33 dX8_fair_30 (by decide) rfl (fun c => ?_) (fun c => ?_)
      · have h := ifF c h
        refine g_bipush C 49 (-9 : Int32) dX8_fair_47 rfl rfl ?_
        refine g_istore C 51 4 [(4, .int (-9 : Int32)), (3, .int s0), (0, .ref o), (1, .int v1), (2, .int v2)] dX8_fair_49 rfl 6 hNL (by decide) rfl ?_
        refine g_iconst C 52 (0 : Int32) dX8_fair_51 rfl rfl ?_
        refine g_istore C 54 5 [(5, .int (0 : Int32)), (4, .int (-9 : Int32)), (3, .int s0), (0, .ref o), (1, .int v1), (2, .int v2)] dX8_fair_52 rfl 6 hNL (by decide) rfl ?_
        refine g_lv (lv' := [(0, .ref o), (1, .int v1), (2, .int v2), (4, .int (-9 : Int32)), (5, .int (0 : Int32))]) [3, 4, 5, 1, 0] rfl ?_
        exact J_54 _ _ _ _ _ _ h
      · have h := ifT c h
        refine g_aload_n C 34 1 dX8_fair_33 rfl rfl ?_
        refine g_iconst C 35 (1 : Int32) dX8_fair_34 rfl rfl ?_
        refine g_aload_n C 36 1 dX8_fair_35 rfl rfl ?_
        refine g_get (v := .int (S.1 8)) C 39 8 0 8 hin_8 rfl rfl (by decide) wf_X8_64 rfl dX8_fair_36 rfl ?_
        refine g_ishl C 40 dX8_fair_39 rfl ?_
        refine g_iconst C 41 (1 : Int32) dX8_fair_40 rfl rfl ?_
        refine g_isub C 42 dX8_fair_41 rfl ?_
        refine g_iload_n C 43 2 dX8_fair_42 rfl rfl ?_
        refine bnd h (fun x3 e3 h => ?_)
        refine g_callVs (w' := (cells8 L o u S)) C 46 [] [.int x3] (ct_X8_mostApart L o u S (((1 : Int32) <<< ((S.1 8) &&& 31)) - (1 : Int32)) v1 x3 e3) kX8_mostApart kvX8_mostApart wl_X8_234 8 0 rfl rfl rfl rfl rfl rfl rfl (Nat.le_of_ble_eq_true rfl) ⟨Nat.le_of_ble_eq_true rfl, Nat.le_of_ble_eq_true rfl⟩ ⟨Nat.zero_le _, Nat.zero_le _⟩ dX8_fair_43 rfl ?_
        exact g_iret (st := []) C E dX8_fair_46 (by obtain rfl := Option.some.inj h; exact ⟨rfl, rfl⟩)
    · have h := ifF c h
      refine g_aload_n C 24 1 dX8_fair_23 rfl rfl ?_
      refine g_iload_n C 25 0 dX8_fair_24 rfl rfl ?_
      refine bnd h (fun x4 e4 h => ?_)
      refine g_callVs (w' := (cells8 L o u x4.2)) C 28 [] [.int x4.1] (ct_X8_no L o u S s0 x4 e4) kX8_no kvX8_no wl_X8_77 8 0 rfl rfl rfl rfl rfl rfl rfl (Nat.le_of_ble_eq_true rfl) ⟨Nat.le_of_ble_eq_true rfl, Nat.le_of_ble_eq_true rfl⟩ ⟨Nat.zero_le _, Nat.zero_le _⟩ dX8_fair_25 rfl ?_
      exact g_iret (st := []) C E dX8_fair_28 (by obtain rfl := Option.some.inj h; exact ⟨rfl, rfl⟩)
  unfold f_X8_fair at h
  refine g_iload_n C 1 1 dX8_fair_0 rfl rfl ?_
  refine bnd h (fun x1 e1 h => ?_)
  refine g_callSr C 4 [] [.int x1] (ct_X8_isHour L v1 x1 e1) kX8_isHour kvX8_isHour wl_X8_126 [] rfl rfl rfl rfl rfl (Nat.le_of_ble_eq_true rfl) ⟨Nat.le_of_ble_eq_true rfl, Nat.le_of_ble_eq_true rfl⟩ ⟨Nat.zero_le _, Nat.zero_le _⟩ dX8_fair_1 rfl ?_
  refine g_if_ne C 11 7 dX8_fair_4 (by decide) rfl (fun c => ?_) (fun c => ?_)
  · have h := ifF c h
    refine g_iload_n C 12 2 dX8_fair_11 rfl rfl ?_
    refine g_iconst C 13 (0 : Int32) dX8_fair_12 rfl rfl ?_
    refine g_bipush C 15 (6 : Int32) dX8_fair_13 rfl rfl ?_
    refine bnd h (fun x2 e2 h => ?_)
    refine g_callSr C 18 [] [.int x2] (ct_X8_bound L v2 (0 : Int32) (6 : Int32) x2 e2) kX8_bound kvX8_bound wl_X8_70 [] rfl rfl rfl rfl rfl (Nat.le_of_ble_eq_true rfl) ⟨Nat.le_of_ble_eq_true rfl, Nat.le_of_ble_eq_true rfl⟩ ⟨Nat.zero_le _, Nat.zero_le _⟩ dX8_fair_15 rfl ?_
    exact J_18 _ _ _ _ h
  · have h := ifT c h
    refine g_iconst C 8 (-1 : Int32) dX8_fair_7 rfl rfl ?_
    refine g_goto C 18 dX8_fair_8 (by decide) ?_
    exact J_18 _ _ _ _ h
