set_option maxHeartbeats 4000000 in
set_option maxRecDepth 100000 in
theorem ct_X6_addStreet (L : LL) (t : Nat) (q : Nat → Nat) (T : OS) (v1 : Int32) (v2 : Int32) (v3 : Int32) (x : (Int32 × OS)) (h : f_X6_addStreet T v1 v2 v3 = some x) : Ct L yX6_addStreet cX6_addStreet 4 (some .int) (rmk 1 0 0 22) 0 0 [.ref t, .int v1, .int v2, .int v3] (cells6 L t q T) (Pv (some (.int x.1)) (cells6 L t q x.2)) := by
  refine g_enter (lv := [(0, .ref t), (1, .int v1), (2, .int v2), (3, .int v3)]) kX6_addStreet rfl rfl (Nat.le_of_ble_eq_true rfl) (fun Γ C E hNL => ?_)
  unfold f_X6_addStreet at h
  refine g_iload_n C 1 1 dX6_addStreet_0 rfl rfl ?_
  refine g_if_lt C 10 4 dX6_addStreet_1 (by decide) rfl (fun c => ?_) (fun c => ?_)
  · have h := ifT c h
    refine g_bipush C 12 (-2 : Int32) dX6_addStreet_10 rfl rfl ?_
    exact g_iret (st := []) C E dX6_addStreet_12 (by obtain rfl := Option.some.inj h; exact ⟨rfl, rfl⟩)
  · have h := ifF c h
    refine g_iload_n C 5 1 dX6_addStreet_4 rfl rfl ?_
    refine g_bipush C 7 (6 : Int32) dX6_addStreet_5 rfl rfl ?_
    refine g_icmp_lt C 13 10 dX6_addStreet_7 (by decide) rfl (fun c => ?_) (fun c => ?_)
    · have h := ifT c h
      refine g_iload_n C 14 2 dX6_addStreet_13 rfl rfl ?_
      refine g_if_lt C 22 17 dX6_addStreet_14 (by decide) rfl (fun c => ?_) (fun c => ?_)
      · have h := ifT c h
        refine g_bipush C 24 (-4 : Int32) dX6_addStreet_22 rfl rfl ?_
        exact g_iret (st := []) C E dX6_addStreet_24 (by obtain rfl := Option.some.inj h; exact ⟨rfl, rfl⟩)
      · have h := ifF c h
        refine g_iload_n C 18 3 dX6_addStreet_17 rfl rfl ?_
        refine g_iconst C 19 (1 : Int32) dX6_addStreet_18 rfl rfl ?_
        refine g_icmp_ge C 25 22 dX6_addStreet_19 (by decide) rfl (fun c => ?_) (fun c => ?_)
        · have h := ifT c h
          refine g_iload_n C 26 2 dX6_addStreet_25 rfl rfl ?_
          refine g_bipush C 28 (9 : Int32) dX6_addStreet_26 rfl rfl ?_
          refine g_icmp_gt C 46 31 dX6_addStreet_28 (by decide) rfl (fun c => ?_) (fun c => ?_)
          · have h := ifT c h
            refine g_bipush C 48 (-6 : Int32) dX6_addStreet_46 rfl rfl ?_
            exact g_iret (st := []) C E dX6_addStreet_48 (by obtain rfl := Option.some.inj h; exact ⟨rfl, rfl⟩)
          · have h := ifF c h
            refine g_iload_n C 32 3 dX6_addStreet_31 rfl rfl ?_
            refine g_bipush C 34 (9 : Int32) dX6_addStreet_32 rfl rfl ?_
            refine g_icmp_gt C 46 37 dX6_addStreet_34 (by decide) rfl (fun c => ?_) (fun c => ?_)
            · have h := ifT c h
              refine g_bipush C 48 (-6 : Int32) dX6_addStreet_46 rfl rfl ?_
              exact g_iret (st := []) C E dX6_addStreet_48 (by obtain rfl := Option.some.inj h; exact ⟨rfl, rfl⟩)
            · have h := ifF c h
              refine g_aload_n C 38 0 dX6_addStreet_37 rfl rfl ?_
              refine g_get (v := .int (T.1 0)) C 41 6 0 0 hin_6 rfl rfl (by decide) wf_X6_9 rfl dX6_addStreet_38 rfl ?_
              refine g_bipush C 43 (8 : Int32) dX6_addStreet_41 rfl rfl ?_
              refine g_icmp_lt C 49 46 dX6_addStreet_43 (by decide) rfl (fun c => ?_) (fun c => ?_)
              · have h := ifT c h
                refine g_aload_n C 50 0 dX6_addStreet_49 rfl rfl ?_
                refine g_get (v := .ref (q 6)) C 53 6 0 6 hin_6 rfl rfl (by decide) wf_X6_30 rfl dX6_addStreet_50 rfl ?_
                refine g_aload_n C 54 0 dX6_addStreet_53 rfl rfl ?_
                refine g_get (v := .int (T.1 0)) C 57 6 0 0 hin_6 rfl rfl (by decide) wf_X6_9 rfl dX6_addStreet_54 rfl ?_
                refine g_iload_n C 58 1 dX6_addStreet_57 rfl rfl ?_
                refine bnd h (fun x1 e1 h => ?_)
                refine g_callNw (w' := (cells6 L t q (sa T 6 x1))) C 61 [] [] (ct_X7_store L (q 6) 8 (T.2 6) (T.1 0) v1 x1 e1) kX7_store kvX7_store wn_X6_53 [1] rfl rfl rfl rfl rfl rfl rfl (Nat.le_of_ble_eq_true rfl) ⟨Nat.le_of_ble_eq_true rfl, Nat.le_of_ble_eq_true rfl⟩ ⟨Nat.zero_le _, Nat.zero_le _⟩ dX6_addStreet_58 rfl ?_
                refine g_aload_n C 62 0 dX6_addStreet_61 rfl rfl ?_
                refine g_get (v := .ref (q 7)) C 65 6 0 7 hin_6 rfl rfl (by decide) wf_X6_34 rfl dX6_addStreet_62 rfl ?_
                refine g_aload_n C 66 0 dX6_addStreet_65 rfl rfl ?_
                refine g_get (v := .int (T.1 0)) C 69 6 0 0 hin_6 rfl rfl (by decide) wf_X6_9 rfl dX6_addStreet_66 rfl ?_
                refine g_iload_n C 70 2 dX6_addStreet_69 rfl rfl ?_
                refine bnd h (fun x2 e2 h => ?_)
                refine g_callNw (w' := (cells6 L t q (sa (sa T 6 x1) 7 x2))) C 73 [] [] (ct_X7_store L (q 7) 8 (T.2 7) (T.1 0) v2 x2 e2) kX7_store kvX7_store wn_X6_53 [2] rfl rfl rfl rfl rfl rfl rfl (Nat.le_of_ble_eq_true rfl) ⟨Nat.le_of_ble_eq_true rfl, Nat.le_of_ble_eq_true rfl⟩ ⟨Nat.zero_le _, Nat.zero_le _⟩ dX6_addStreet_70 rfl ?_
                refine g_aload_n C 74 0 dX6_addStreet_73 rfl rfl ?_
                refine g_get (v := .ref (q 8)) C 77 6 0 8 hin_6 rfl rfl (by decide) wf_X6_37 rfl dX6_addStreet_74 rfl ?_
                refine g_aload_n C 78 0 dX6_addStreet_77 rfl rfl ?_
                refine g_get (v := .int (T.1 0)) C 81 6 0 0 hin_6 rfl rfl (by decide) wf_X6_9 rfl dX6_addStreet_78 rfl ?_
                refine g_iload_n C 82 3 dX6_addStreet_81 rfl rfl ?_
                refine bnd h (fun x3 e3 h => ?_)
                refine g_callNw (w' := (cells6 L t q (sa (sa (sa T 6 x1) 7 x2) 8 x3))) C 85 [] [] (ct_X7_store L (q 8) 8 (T.2 8) (T.1 0) v3 x3 e3) kX7_store kvX7_store wn_X6_53 [3] rfl rfl rfl rfl rfl rfl rfl (Nat.le_of_ble_eq_true rfl) ⟨Nat.le_of_ble_eq_true rfl, Nat.le_of_ble_eq_true rfl⟩ ⟨Nat.zero_le _, Nat.zero_le _⟩ dX6_addStreet_82 rfl ?_
                refine g_aload_n C 86 0 dX6_addStreet_85 rfl rfl ?_
                refine g_dup C 87 dX6_addStreet_86 rfl rfl ?_
                refine g_get (v := .int (T.1 0)) C 90 6 0 0 hin_6 rfl rfl (by decide) wf_X6_9 rfl dX6_addStreet_87 rfl ?_
                refine g_iconst C 91 (1 : Int32) dX6_addStreet_90 rfl rfl ?_
                refine g_iadd C 92 dX6_addStreet_91 rfl ?_
                refine g_put (w' := (cells6 L t q (su (sa (sa (sa T 6 x1) 7 x2) 8 x3) 0 ((T.1 0) + (1 : Int32))))) C 95 6 0 0 hin_6 tyX6 tyX6_ok nmX6 rfl rfl (by decide) wf_X6_9 rfl rfl rfl (Nat.le_of_ble_eq_true rfl) dX6_addStreet_92 rfl rfl ?_
                refine g_aload_n C 96 0 dX6_addStreet_95 rfl rfl ?_
                refine g_get (v := .int ((T.1 0) + (1 : Int32))) C 99 6 0 0 hin_6 rfl rfl (by decide) wf_X6_9 rfl dX6_addStreet_96 rfl ?_
                refine g_iconst C 100 (1 : Int32) dX6_addStreet_99 rfl rfl ?_
                refine g_isub C 101 dX6_addStreet_100 rfl ?_
                exact g_iret (st := []) C E dX6_addStreet_101 (by obtain rfl := Option.some.inj h; exact ⟨rfl, rfl⟩)
              · have h := ifF c h
                refine g_bipush C 48 (-6 : Int32) dX6_addStreet_46 rfl rfl ?_
                exact g_iret (st := []) C E dX6_addStreet_48 (by obtain rfl := Option.some.inj h; exact ⟨rfl, rfl⟩)
        · have h := ifF c h
          refine g_bipush C 24 (-4 : Int32) dX6_addStreet_22 rfl rfl ?_
          exact g_iret (st := []) C E dX6_addStreet_24 (by obtain rfl := Option.some.inj h; exact ⟨rfl, rfl⟩)
    · have h := ifF c h
      refine g_bipush C 12 (-2 : Int32) dX6_addStreet_10 rfl rfl ?_
      exact g_iret (st := []) C E dX6_addStreet_12 (by obtain rfl := Option.some.inj h; exact ⟨rfl, rfl⟩)
set_option maxHeartbeats 4000000 in
set_option maxRecDepth 100000 in
theorem ct_X6_allStreets (L : LL) (t : Nat) (q : Nat → Nat) (T : OS) (x : Int32) (h : f_X6_allStreets T = some x) : Ct L yX6_allStreets cX6_allStreets 1 (some .int) (rmk 0 0 0 0) 0 0 [.ref t] (cells6 L t q T) (Pv (some (.int x)) (cells6 L t q T)) := by
  refine g_enter (lv := [(0, .ref t)]) kX6_allStreets rfl rfl (Nat.le_of_ble_eq_true rfl) (fun Γ C E hNL => ?_)
  unfold f_X6_allStreets at h
  refine g_iconst C 1 (1 : Int32) dX6_allStreets_0 rfl rfl ?_
  refine g_aload_n C 2 0 dX6_allStreets_1 rfl rfl ?_
  refine g_get (v := .int (T.1 0)) C 5 6 0 0 hin_6 rfl rfl (by decide) wf_X6_9 rfl dX6_allStreets_2 rfl ?_
  refine g_ishl C 6 dX6_allStreets_5 rfl ?_
  refine g_iconst C 7 (1 : Int32) dX6_allStreets_6 rfl rfl ?_
  refine g_isub C 8 dX6_allStreets_7 rfl ?_
  exact g_iret (st := []) C E dX6_allStreets_8 (by obtain rfl := Option.some.inj h; exact ⟨rfl, rfl⟩)
set_option maxHeartbeats 4000000 in
set_option maxRecDepth 100000 in
theorem ct_X6_addWay (L : LL) (t : Nat) (q : Nat → Nat) (T : OS) (v1 : Int32) (x : (Int32 × OS)) (h : f_X6_addWay T v1 = some x) : Ct L yX6_addWay cX6_addWay 2 (some .int) (rmk 1 0 0 22) 0 0 [.ref t, .int v1] (cells6 L t q T) (Pv (some (.int x.1)) (cells6 L t q x.2)) := by
  refine g_enter (lv := [(0, .ref t), (1, .int v1)]) kX6_addWay rfl rfl (Nat.le_of_ble_eq_true rfl) (fun Γ C E hNL => ?_)
  unfold f_X6_addWay at h
  refine g_iload_n C 1 1 dX6_addWay_0 rfl rfl ?_
  refine g_iconst C 2 (1 : Int32) dX6_addWay_1 rfl rfl ?_
  refine g_icmp_ge C 8 5 dX6_addWay_2 (by decide) rfl (fun c => ?_) (fun c => ?_)
  · have h := ifT c h
    refine g_iload_n C 9 1 dX6_addWay_8 rfl rfl ?_
    refine g_aload_n C 10 0 dX6_addWay_9 rfl rfl ?_
    refine bnd h (fun x1 e1 h => ?_)
    refine g_callVr C 13 [.int v1] [.int x1, .int v1] (ct_X6_allStreets L t q T x1 e1) kX6_allStreets kvX6_allStreets wl_X6_57 6 0 rfl rfl rfl [0, 1, 2, 3, 4, 5, 6] rfl rfl rfl rfl rfl (Nat.le_of_ble_eq_true rfl) ⟨Nat.le_of_ble_eq_true rfl, Nat.le_of_ble_eq_true rfl⟩ ⟨Nat.zero_le _, Nat.zero_le _⟩ dX6_addWay_10 rfl ?_
    refine g_icmp_gt C 25 16 dX6_addWay_13 (by decide) rfl (fun c => ?_) (fun c => ?_)
    · have h := ifT c h
      refine g_bipush C 27 (-6 : Int32) dX6_addWay_25 rfl rfl ?_
      exact g_iret (st := []) C E dX6_addWay_27 (by obtain rfl := Option.some.inj h; exact ⟨rfl, rfl⟩)
    · have h := ifF c h
      refine g_aload_n C 17 0 dX6_addWay_16 rfl rfl ?_
      refine g_get (v := .int (T.1 1)) C 20 6 0 1 hin_6 rfl rfl (by decide) wf_X6_15 rfl dX6_addWay_17 rfl ?_
      refine g_bipush C 22 (6 : Int32) dX6_addWay_20 rfl rfl ?_
      refine g_icmp_lt C 28 25 dX6_addWay_22 (by decide) rfl (fun c => ?_) (fun c => ?_)
      · have h := ifT c h
        refine g_aload_n C 29 0 dX6_addWay_28 rfl rfl ?_
        refine g_get (v := .ref (q 9)) C 32 6 0 9 hin_6 rfl rfl (by decide) wf_X6_40 rfl dX6_addWay_29 rfl ?_
        refine g_aload_n C 33 0 dX6_addWay_32 rfl rfl ?_
        refine g_get (v := .int (T.1 1)) C 36 6 0 1 hin_6 rfl rfl (by decide) wf_X6_15 rfl dX6_addWay_33 rfl ?_
        refine g_iload_n C 37 1 dX6_addWay_36 rfl rfl ?_
        refine bnd h (fun x2 e2 h => ?_)
        refine g_callNw (w' := (cells6 L t q (sa T 9 x2))) C 40 [] [] (ct_X7_store L (q 9) 6 (T.2 9) (T.1 1) v1 x2 e2) kX7_store kvX7_store wn_X6_53 [4] rfl rfl rfl rfl rfl rfl rfl (Nat.le_of_ble_eq_true rfl) ⟨Nat.le_of_ble_eq_true rfl, Nat.le_of_ble_eq_true rfl⟩ ⟨Nat.zero_le _, Nat.zero_le _⟩ dX6_addWay_37 rfl ?_
        refine g_aload_n C 41 0 dX6_addWay_40 rfl rfl ?_
        refine g_dup C 42 dX6_addWay_41 rfl rfl ?_
        refine g_get (v := .int (T.1 1)) C 45 6 0 1 hin_6 rfl rfl (by decide) wf_X6_15 rfl dX6_addWay_42 rfl ?_
        refine g_iconst C 46 (1 : Int32) dX6_addWay_45 rfl rfl ?_
        refine g_iadd C 47 dX6_addWay_46 rfl ?_
        refine g_put (w' := (cells6 L t q (su (sa T 9 x2) 1 ((T.1 1) + (1 : Int32))))) C 50 6 0 1 hin_6 tyX6 tyX6_ok nmX6 rfl rfl (by decide) wf_X6_15 rfl rfl rfl (Nat.le_of_ble_eq_true rfl) dX6_addWay_47 rfl rfl ?_
        refine g_aload_n C 51 0 dX6_addWay_50 rfl rfl ?_
        refine g_get (v := .int ((T.1 1) + (1 : Int32))) C 54 6 0 1 hin_6 rfl rfl (by decide) wf_X6_15 rfl dX6_addWay_51 rfl ?_
        refine g_iconst C 55 (1 : Int32) dX6_addWay_54 rfl rfl ?_
        refine g_isub C 56 dX6_addWay_55 rfl ?_
        exact g_iret (st := []) C E dX6_addWay_56 (by obtain rfl := Option.some.inj h; exact ⟨rfl, rfl⟩)
      · have h := ifF c h
        refine g_bipush C 27 (-6 : Int32) dX6_addWay_25 rfl rfl ?_
        exact g_iret (st := []) C E dX6_addWay_27 (by obtain rfl := Option.some.inj h; exact ⟨rfl, rfl⟩)
  · have h := ifF c h
    refine g_bipush C 7 (-4 : Int32) dX6_addWay_5 rfl rfl ?_
    exact g_iret (st := []) C E dX6_addWay_7 (by obtain rfl := Option.some.inj h; exact ⟨rfl, rfl⟩)
set_option maxHeartbeats 4000000 in
set_option maxRecDepth 100000 in
theorem ct_X6_addLearner (L : LL) (t : Nat) (q : Nat → Nat) (T : OS) (v1 : Int32) (x : (Int32 × OS)) (h : f_X6_addLearner T v1 = some x) : Ct L yX6_addLearner cX6_addLearner 2 (some .int) (rmk 1 0 0 22) 0 0 [.ref t, .int v1] (cells6 L t q T) (Pv (some (.int x.1)) (cells6 L t q x.2)) := by
  refine g_enter (lv := [(0, .ref t), (1, .int v1)]) kX6_addLearner rfl rfl (Nat.le_of_ble_eq_true rfl) (fun Γ C E hNL => ?_)
  unfold f_X6_addLearner at h
  refine g_iload_n C 1 1 dX6_addLearner_0 rfl rfl ?_
  refine g_if_ge C 7 4 dX6_addLearner_1 (by decide) rfl (fun c => ?_) (fun c => ?_)
  · have h := ifT c h
    refine g_iload_n C 8 1 dX6_addLearner_7 rfl rfl ?_
    refine g_bipush C 10 (9 : Int32) dX6_addLearner_8 rfl rfl ?_
    refine g_icmp_gt C 21 13 dX6_addLearner_10 (by decide) rfl (fun c => ?_) (fun c => ?_)
    · have h := ifT c h
      refine g_bipush C 23 (-6 : Int32) dX6_addLearner_21 rfl rfl ?_
      exact g_iret (st := []) C E dX6_addLearner_23 (by obtain rfl := Option.some.inj h; exact ⟨rfl, rfl⟩)
    · have h := ifF c h
      refine g_aload_n C 14 0 dX6_addLearner_13 rfl rfl ?_
      refine g_get (v := .int (T.1 2)) C 17 6 0 2 hin_6 rfl rfl (by decide) wf_X6_18 rfl dX6_addLearner_14 rfl ?_
      refine g_iconst C 18 (5 : Int32) dX6_addLearner_17 rfl rfl ?_
      refine g_icmp_lt C 24 21 dX6_addLearner_18 (by decide) rfl (fun c => ?_) (fun c => ?_)
      · have h := ifT c h
        refine g_aload_n C 25 0 dX6_addLearner_24 rfl rfl ?_
        refine g_get (v := .ref (q 10)) C 28 6 0 10 hin_6 rfl rfl (by decide) wf_X6_43 rfl dX6_addLearner_25 rfl ?_
        refine g_aload_n C 29 0 dX6_addLearner_28 rfl rfl ?_
        refine g_get (v := .int (T.1 2)) C 32 6 0 2 hin_6 rfl rfl (by decide) wf_X6_18 rfl dX6_addLearner_29 rfl ?_
        refine g_iload_n C 33 1 dX6_addLearner_32 rfl rfl ?_
        refine bnd h (fun x1 e1 h => ?_)
        refine g_callNw (w' := (cells6 L t q (sa T 10 x1))) C 36 [] [] (ct_X7_store L (q 10) 5 (T.2 10) (T.1 2) v1 x1 e1) kX7_store kvX7_store wn_X6_53 [5] rfl rfl rfl rfl rfl rfl rfl (Nat.le_of_ble_eq_true rfl) ⟨Nat.le_of_ble_eq_true rfl, Nat.le_of_ble_eq_true rfl⟩ ⟨Nat.zero_le _, Nat.zero_le _⟩ dX6_addLearner_33 rfl ?_
        refine g_aload_n C 37 0 dX6_addLearner_36 rfl rfl ?_
        refine g_get (v := .ref (q 11)) C 40 6 0 11 hin_6 rfl rfl (by decide) wf_X6_46 rfl dX6_addLearner_37 rfl ?_
        refine g_aload_n C 41 0 dX6_addLearner_40 rfl rfl ?_
        refine g_get (v := .int (T.1 2)) C 44 6 0 2 hin_6 rfl rfl (by decide) wf_X6_18 rfl dX6_addLearner_41 rfl ?_
        refine g_iconst C 45 (0 : Int32) dX6_addLearner_44 rfl rfl ?_
        refine bnd h (fun x2 e2 h => ?_)
        refine g_callNw (w' := (cells6 L t q (sa (sa T 10 x1) 11 x2))) C 48 [] [] (ct_X7_store L (q 11) 5 (T.2 11) (T.1 2) (0 : Int32) x2 e2) kX7_store kvX7_store wn_X6_53 [6] rfl rfl rfl rfl rfl rfl rfl (Nat.le_of_ble_eq_true rfl) ⟨Nat.le_of_ble_eq_true rfl, Nat.le_of_ble_eq_true rfl⟩ ⟨Nat.zero_le _, Nat.zero_le _⟩ dX6_addLearner_45 rfl ?_
        refine g_aload_n C 49 0 dX6_addLearner_48 rfl rfl ?_
        refine g_dup C 50 dX6_addLearner_49 rfl rfl ?_
        refine g_get (v := .int (T.1 2)) C 53 6 0 2 hin_6 rfl rfl (by decide) wf_X6_18 rfl dX6_addLearner_50 rfl ?_
        refine g_iconst C 54 (1 : Int32) dX6_addLearner_53 rfl rfl ?_
        refine g_iadd C 55 dX6_addLearner_54 rfl ?_
        refine g_put (w' := (cells6 L t q (su (sa (sa T 10 x1) 11 x2) 2 ((T.1 2) + (1 : Int32))))) C 58 6 0 2 hin_6 tyX6 tyX6_ok nmX6 rfl rfl (by decide) wf_X6_18 rfl rfl rfl (Nat.le_of_ble_eq_true rfl) dX6_addLearner_55 rfl rfl ?_
        refine g_aload_n C 59 0 dX6_addLearner_58 rfl rfl ?_
        refine g_get (v := .int ((T.1 2) + (1 : Int32))) C 62 6 0 2 hin_6 rfl rfl (by decide) wf_X6_18 rfl dX6_addLearner_59 rfl ?_
        refine g_iconst C 63 (1 : Int32) dX6_addLearner_62 rfl rfl ?_
        refine g_isub C 64 dX6_addLearner_63 rfl ?_
        exact g_iret (st := []) C E dX6_addLearner_64 (by obtain rfl := Option.some.inj h; exact ⟨rfl, rfl⟩)
      · have h := ifF c h
        refine g_bipush C 23 (-6 : Int32) dX6_addLearner_21 rfl rfl ?_
        exact g_iret (st := []) C E dX6_addLearner_23 (by obtain rfl := Option.some.inj h; exact ⟨rfl, rfl⟩)
  · have h := ifF c h
    refine g_bipush C 6 (-4 : Int32) dX6_addLearner_4 rfl rfl ?_
    exact g_iret (st := []) C E dX6_addLearner_6 (by obtain rfl := Option.some.inj h; exact ⟨rfl, rfl⟩)
set_option maxHeartbeats 4000000 in
set_option maxRecDepth 100000 in
theorem ct_X6_hasLearner (L : LL) (t : Nat) (q : Nat → Nat) (T : OS) (v1 : Int32) (x : Int32) (h : f_X6_hasLearner T v1 = some x) : Ct L yX6_hasLearner cX6_hasLearner 2 (some .boolean) (rmk 0 0 0 0) 0 0 [.ref t, .int v1] (cells6 L t q T) (Pv (some (.int x)) (cells6 L t q T)) := by
  refine g_enter (lv := [(0, .ref t), (1, .int v1)]) kX6_hasLearner rfl rfl (Nat.le_of_ble_eq_true rfl) (fun Γ C E hNL => ?_)
  unfold f_X6_hasLearner at h
  refine g_iload_n C 1 1 dX6_hasLearner_0 rfl rfl ?_
  refine g_if_lt C 16 4 dX6_hasLearner_1 (by decide) rfl (fun c => ?_) (fun c => ?_)
  · have h := ifT c h
    refine g_iconst C 17 (0 : Int32) dX6_hasLearner_16 rfl rfl ?_
    exact g_zret (st := []) C E dX6_hasLearner_17 rfl (by obtain rfl := Option.some.inj h; exact ⟨rfl, rfl⟩)
  · have h := ifF c h
    refine g_iload_n C 5 1 dX6_hasLearner_4 rfl rfl ?_
    refine g_aload_n C 6 0 dX6_hasLearner_5 rfl rfl ?_
    refine g_get (v := .int (T.1 2)) C 9 6 0 2 hin_6 rfl rfl (by decide) wf_X6_18 rfl dX6_hasLearner_6 rfl ?_
    refine g_icmp_ge C 16 12 dX6_hasLearner_9 (by decide) rfl (fun c => ?_) (fun c => ?_)
    · have h := ifT c h
      refine g_iconst C 17 (0 : Int32) dX6_hasLearner_16 rfl rfl ?_
      exact g_zret (st := []) C E dX6_hasLearner_17 rfl (by obtain rfl := Option.some.inj h; exact ⟨rfl, rfl⟩)
    · have h := ifF c h
      refine g_iconst C 13 (1 : Int32) dX6_hasLearner_12 rfl rfl ?_
      refine g_goto C 17 dX6_hasLearner_13 (by decide) ?_
      exact g_zret (st := []) C E dX6_hasLearner_17 rfl (by obtain rfl := Option.some.inj h; exact ⟨rfl, rfl⟩)
set_option maxHeartbeats 4000000 in
set_option maxRecDepth 100000 in
theorem ct_X6_hasStreet (L : LL) (t : Nat) (q : Nat → Nat) (T : OS) (v1 : Int32) (x : Int32) (h : f_X6_hasStreet T v1 = some x) : Ct L yX6_hasStreet cX6_hasStreet 2 (some .boolean) (rmk 0 0 0 0) 0 0 [.ref t, .int v1] (cells6 L t q T) (Pv (some (.int x)) (cells6 L t q T)) := by
  refine g_enter (lv := [(0, .ref t), (1, .int v1)]) kX6_hasStreet rfl rfl (Nat.le_of_ble_eq_true rfl) (fun Γ C E hNL => ?_)
  unfold f_X6_hasStreet at h
  refine g_iload_n C 1 1 dX6_hasStreet_0 rfl rfl ?_
  refine g_if_lt C 16 4 dX6_hasStreet_1 (by decide) rfl (fun c => ?_) (fun c => ?_)
  · have h := ifT c h
    refine g_iconst C 17 (0 : Int32) dX6_hasStreet_16 rfl rfl ?_
    exact g_zret (st := []) C E dX6_hasStreet_17 rfl (by obtain rfl := Option.some.inj h; exact ⟨rfl, rfl⟩)
  · have h := ifF c h
    refine g_iload_n C 5 1 dX6_hasStreet_4 rfl rfl ?_
    refine g_aload_n C 6 0 dX6_hasStreet_5 rfl rfl ?_
    refine g_get (v := .int (T.1 0)) C 9 6 0 0 hin_6 rfl rfl (by decide) wf_X6_9 rfl dX6_hasStreet_6 rfl ?_
    refine g_icmp_ge C 16 12 dX6_hasStreet_9 (by decide) rfl (fun c => ?_) (fun c => ?_)
    · have h := ifT c h
      refine g_iconst C 17 (0 : Int32) dX6_hasStreet_16 rfl rfl ?_
      exact g_zret (st := []) C E dX6_hasStreet_17 rfl (by obtain rfl := Option.some.inj h; exact ⟨rfl, rfl⟩)
    · have h := ifF c h
      refine g_iconst C 13 (1 : Int32) dX6_hasStreet_12 rfl rfl ?_
      refine g_goto C 17 dX6_hasStreet_13 (by decide) ?_
      exact g_zret (st := []) C E dX6_hasStreet_17 rfl (by obtain rfl := Option.some.inj h; exact ⟨rfl, rfl⟩)
set_option maxHeartbeats 4000000 in
set_option maxRecDepth 100000 in
theorem ct_X6_turnKnown (L : LL) (t : Nat) (q : Nat → Nat) (T : OS) (v1 : Int32) (v2 : Int32) (x : (Int32 × OS)) (h : f_X6_turnKnown T v1 v2 = some x) : Ct L yX6_turnKnown cX6_turnKnown 4 (some .int) (rmk 1 0 0 22) 0 0 [.ref t, .int v1, .int v2] (cells6 L t q T) (Pv (some (.int x.1)) (cells6 L t q x.2)) := by
  refine g_enter (lv := [(0, .ref t), (1, .int v1), (2, .int v2)]) kX6_turnKnown rfl rfl (Nat.le_of_ble_eq_true rfl) (fun Γ C E hNL => ?_)
  unfold f_X6_turnKnown at h
  refine g_aload_n C 1 0 dX6_turnKnown_0 rfl rfl ?_
  refine g_iload_n C 2 1 dX6_turnKnown_1 rfl rfl ?_
  refine bnd h (fun x1 e1 h => ?_)
  refine g_callVr C 5 [] [.int x1] (ct_X6_hasLearner L t q T v1 x1 e1) kX6_hasLearner kvX6_hasLearner wl_X6_61 6 0 rfl rfl rfl [0, 1, 2, 3, 4, 5, 6] rfl rfl rfl rfl rfl (Nat.le_of_ble_eq_true rfl) ⟨Nat.le_of_ble_eq_true rfl, Nat.le_of_ble_eq_true rfl⟩ ⟨Nat.zero_le _, Nat.zero_le _⟩ dX6_turnKnown_2 rfl ?_
  refine g_if_eq C 16 8 dX6_turnKnown_5 (by decide) rfl (fun c => ?_) (fun c => ?_)
  · have h := ifT c h
    refine g_iconst C 17 (-1 : Int32) dX6_turnKnown_16 rfl rfl ?_
    exact g_iret (st := []) C E dX6_turnKnown_17 (by obtain rfl := Option.some.inj h; exact ⟨rfl, rfl⟩)
  · have h := ifF c h
    refine g_aload_n C 9 0 dX6_turnKnown_8 rfl rfl ?_
    refine g_iload_n C 10 2 dX6_turnKnown_9 rfl rfl ?_
    refine bnd h (fun x2 e2 h => ?_)
    refine g_callVr C 13 [] [.int x2] (ct_X6_hasStreet L t q T v2 x2 e2) kX6_hasStreet kvX6_hasStreet wl_X6_76 6 0 rfl rfl rfl [0, 1, 2, 3, 4, 5, 6] rfl rfl rfl rfl rfl (Nat.le_of_ble_eq_true rfl) ⟨Nat.le_of_ble_eq_true rfl, Nat.le_of_ble_eq_true rfl⟩ ⟨Nat.zero_le _, Nat.zero_le _⟩ dX6_turnKnown_10 rfl ?_
    refine g_if_ne C 18 16 dX6_turnKnown_13 (by decide) rfl (fun c => ?_) (fun c => ?_)
    · have h := ifF c h
      refine g_aload_n C 19 0 dX6_turnKnown_18 rfl rfl ?_
      refine g_get (v := .ref (q 11)) C 22 6 0 11 hin_6 rfl rfl (by decide) wf_X6_46 rfl dX6_turnKnown_19 rfl ?_
      refine g_iload_n C 23 1 dX6_turnKnown_22 rfl rfl ?_
      refine bnd h (fun x3 e3 h => ?_)
      refine g_callNr C 26 [] [.int x3] (ct_X7_at L (q 11) 5 (T.2 11) v1 x3 e3) kX7_at kvX7_at wn_X6_72 [6] rfl rfl rfl rfl rfl (Nat.le_of_ble_eq_true rfl) ⟨Nat.le_of_ble_eq_true rfl, Nat.le_of_ble_eq_true rfl⟩ ⟨Nat.zero_le _, Nat.zero_le _⟩ dX6_turnKnown_23 rfl ?_
      refine g_iconst C 27 (1 : Int32) dX6_turnKnown_26 rfl rfl ?_
      refine g_iload_n C 28 2 dX6_turnKnown_27 rfl rfl ?_
      refine g_ishl C 29 dX6_turnKnown_28 rfl ?_
      refine g_ixor C 30 dX6_turnKnown_29 rfl ?_
      refine g_istore_n C 31 3 [(3, .int (x3 ^^^ ((1 : Int32) <<< (v2 &&& 31)))), (0, .ref t), (1, .int v1), (2, .int v2)] dX6_turnKnown_30 rfl rfl 4 hNL (by decide) rfl ?_
      refine g_aload_n C 32 1 dX6_turnKnown_31 rfl rfl ?_
      refine g_get (v := .ref (q 11)) C 35 6 0 11 hin_6 rfl rfl (by decide) wf_X6_46 rfl dX6_turnKnown_32 rfl ?_
      refine g_iload_n C 36 2 dX6_turnKnown_35 rfl rfl ?_
      refine g_iload_n C 37 0 dX6_turnKnown_36 rfl rfl ?_
      refine bnd h (fun x4 e4 h => ?_)
      refine g_callNw (w' := (cells6 L t q (sa T 11 x4))) C 40 [] [] (ct_X7_store L (q 11) 5 (T.2 11) v1 (x3 ^^^ ((1 : Int32) <<< (v2 &&& 31))) x4 e4) kX7_store kvX7_store wn_X6_53 [6] rfl rfl rfl rfl rfl rfl rfl (Nat.le_of_ble_eq_true rfl) ⟨Nat.le_of_ble_eq_true rfl, Nat.le_of_ble_eq_true rfl⟩ ⟨Nat.zero_le _, Nat.zero_le _⟩ dX6_turnKnown_37 rfl ?_
      refine g_iload_n C 41 0 dX6_turnKnown_40 rfl rfl ?_
      refine g_iload_n C 42 3 dX6_turnKnown_41 rfl rfl ?_
      refine bnd h (fun x5 e5 h => ?_)
      refine g_callNr C 45 [] [.int x5] (ct_X7_has L (x3 ^^^ ((1 : Int32) <<< (v2 &&& 31))) v2 x5 e5) kX7_has kvX7_has wn_X6_79 [] rfl rfl rfl rfl rfl (Nat.le_of_ble_eq_true rfl) ⟨Nat.le_of_ble_eq_true rfl, Nat.le_of_ble_eq_true rfl⟩ ⟨Nat.zero_le _, Nat.zero_le _⟩ dX6_turnKnown_42 rfl ?_
      refine g_if_eq C 52 48 dX6_turnKnown_45 (by decide) rfl (fun c => ?_) (fun c => ?_)
      · have h := ifT c h
        refine g_iconst C 53 (0 : Int32) dX6_turnKnown_52 rfl rfl ?_
        exact g_iret (st := []) C E dX6_turnKnown_53 (by obtain rfl := Option.some.inj h; exact ⟨rfl, rfl⟩)
      · have h := ifF c h
        refine g_iconst C 49 (1 : Int32) dX6_turnKnown_48 rfl rfl ?_
        refine g_goto C 53 dX6_turnKnown_49 (by decide) ?_
        exact g_iret (st := []) C E dX6_turnKnown_53 (by obtain rfl := Option.some.inj h; exact ⟨rfl, rfl⟩)
    · have h := ifT c h
      refine g_iconst C 17 (-1 : Int32) dX6_turnKnown_16 rfl rfl ?_
      exact g_iret (st := []) C E dX6_turnKnown_17 (by obtain rfl := Option.some.inj h; exact ⟨rfl, rfl⟩)
set_option maxHeartbeats 4000000 in
set_option maxRecDepth 100000 in
theorem ct_X6_change (L : LL) (t : Nat) (q : Nat → Nat) (T : OS) (v1 : Int32) (v2 : Int32) (x : (Int32 × OS)) (h : f_X6_change T v1 v2 = some x) : Ct L yX6_change cX6_change 4 (some .int) (rmk 1 0 0 20) 0 0 [.ref t, .int v1, .int v2] (cells6 L t q T) (Pv (some (.int x.1)) (cells6 L t q x.2)) := by
  refine g_enter (lv := [(0, .ref t), (1, .int v1), (2, .int v2)]) kX6_change rfl rfl (Nat.le_of_ble_eq_true rfl) (fun Γ C E hNL => ?_)
  have J_50 : ∀ (v1 : Int32) (v2 : Int32) (s0 : Int32) (T : OS), j_X6_change_50   v1 v2 s0 T = some x → G L Γ 0 0 (cells6 L t q T) 50 [(0, .ref t), (1, .int v1), (2, .int v2)] [.int s0] := by
    intro v1 v2 s0 T h
    unfold j_X6_change_50 at h
    refine g_istore_n C 51 3 [(3, .int s0), (0, .ref t), (1, .int v1), (2, .int v2)] dX6_change_50 rfl rfl 4 hNL (by decide) rfl ?_
    refine g_iload_n C 52 2 dX6_change_51 rfl rfl ?_
    refine g_if_ne C 63 55 dX6_change_52 (by decide) rfl (fun c => ?_) (fun c => ?_)
    · have h := ifF c h
      refine g_aload_n C 64 1 dX6_change_63 rfl rfl ?_
      refine g_iload_n C 65 3 dX6_change_64 rfl rfl ?_
      refine g_put (w' := (cells6 L t q (su T 4 v2))) C 68 6 0 4 hin_6 tyX6 tyX6_ok nmX6 rfl rfl (by decide) wf_X6_24 rfl rfl rfl (Nat.le_of_ble_eq_true rfl) dX6_change_65 rfl rfl ?_
      refine g_iload_n C 69 0 dX6_change_68 rfl rfl ?_
      exact g_iret (st := []) C E dX6_change_69 (by obtain rfl := Option.some.inj h; exact ⟨rfl, rfl⟩)
    · have h := ifT c h
      refine g_aload_n C 56 1 dX6_change_55 rfl rfl ?_
      refine g_iload_n C 57 3 dX6_change_56 rfl rfl ?_
      refine g_put (w' := (cells6 L t q (su T 3 v2))) C 60 6 0 3 hin_6 tyX6 tyX6_ok nmX6 rfl rfl (by decide) wf_X6_21 rfl rfl rfl (Nat.le_of_ble_eq_true rfl) dX6_change_57 rfl rfl ?_
      refine g_goto C 68 dX6_change_60 (by decide) ?_
      refine g_iload_n C 69 0 dX6_change_68 rfl rfl ?_
      exact g_iret (st := []) C E dX6_change_69 (by obtain rfl := Option.some.inj h; exact ⟨rfl, rfl⟩)
  have J_29 : ∀ (v1 : Int32) (v2 : Int32) (s0 : Int32) (s1 : Int32) (T : OS), j_X6_change_29   v1 v2 s0 s1 T = some x → G L Γ 0 0 (cells6 L t q T) 29 [(0, .ref t), (1, .int v1), (2, .int v2)] [.int s0, .int s1] := by
    intro v1 v2 s0 s1 T h
    unfold j_X6_change_29 at h
    refine g_icmp_le C 35 32 dX6_change_29 (by decide) rfl (fun c => ?_) (fun c => ?_)
    · have h := ifT c h
      refine g_iload_n C 36 1 dX6_change_35 rfl rfl ?_
      refine g_if_ne C 46 39 dX6_change_36 (by decide) rfl (fun c => ?_) (fun c => ?_)
      · have h := ifF c h
        refine g_aload_n C 47 0 dX6_change_46 rfl rfl ?_
        refine g_get (v := .int (T.1 4)) C 50 6 0 4 hin_6 rfl rfl (by decide) wf_X6_24 rfl dX6_change_47 rfl ?_
        exact J_50 _ _ _ _ h
      · have h := ifT c h
        refine g_aload_n C 40 0 dX6_change_39 rfl rfl ?_
        refine g_get (v := .int (T.1 3)) C 43 6 0 3 hin_6 rfl rfl (by decide) wf_X6_21 rfl dX6_change_40 rfl ?_
        refine g_goto C 50 dX6_change_43 (by decide) ?_
        exact J_50 _ _ _ _ h
    · have h := ifF c h
      refine g_bipush C 34 (-6 : Int32) dX6_change_32 rfl rfl ?_
      exact g_iret (st := []) C E dX6_change_34 (by obtain rfl := Option.some.inj h; exact ⟨rfl, rfl⟩)
  unfold f_X6_change at h
  refine g_iload_n C 1 1 dX6_change_0 rfl rfl ?_
  refine bnd h (fun x1 e1 h => ?_)
  refine g_callNr C 4 [] [.int x1] (ct_X7_isEither L v1 x1 e1) kX7_isEither kvX7_isEither wn_X6_83 [] rfl rfl rfl rfl rfl (Nat.le_of_ble_eq_true rfl) ⟨Nat.le_of_ble_eq_true rfl, Nat.le_of_ble_eq_true rfl⟩ ⟨Nat.zero_le _, Nat.zero_le _⟩ dX6_change_1 rfl ?_
  refine g_if_ne C 10 7 dX6_change_4 (by decide) rfl (fun c => ?_) (fun c => ?_)
  · have h := ifF c h
    refine g_iload_n C 11 2 dX6_change_10 rfl rfl ?_
    refine g_if_ge C 17 14 dX6_change_11 (by decide) rfl (fun c => ?_) (fun c => ?_)
    · have h := ifT c h
      refine g_iload_n C 18 2 dX6_change_17 rfl rfl ?_
      refine g_iload_n C 19 1 dX6_change_18 rfl rfl ?_
      refine g_if_ne C 27 22 dX6_change_19 (by decide) rfl (fun c => ?_) (fun c => ?_)
      · have h := ifF c h
        refine g_bipush C 29 (99 : Int32) dX6_change_27 rfl rfl ?_
        exact J_29 _ _ _ _ _ h
      · have h := ifT c h
        refine g_bipush C 24 (23 : Int32) dX6_change_22 rfl rfl ?_
        refine g_goto C 29 dX6_change_24 (by decide) ?_
        exact J_29 _ _ _ _ _ h
    · have h := ifF c h
      refine g_bipush C 16 (-4 : Int32) dX6_change_14 rfl rfl ?_
      exact g_iret (st := []) C E dX6_change_16 (by obtain rfl := Option.some.inj h; exact ⟨rfl, rfl⟩)
  · have h := ifT c h
    refine g_bipush C 9 (-2 : Int32) dX6_change_7 rfl rfl ?_
    exact g_iret (st := []) C E dX6_change_9 (by obtain rfl := Option.some.inj h; exact ⟨rfl, rfl⟩)
set_option maxHeartbeats 4000000 in
set_option maxRecDepth 100000 in
theorem ct_X6_hasWay (L : LL) (t : Nat) (q : Nat → Nat) (T : OS) (v1 : Int32) (x : Int32) (h : f_X6_hasWay T v1 = some x) : Ct L yX6_hasWay cX6_hasWay 2 (some .boolean) (rmk 0 0 0 0) 0 0 [.ref t, .int v1] (cells6 L t q T) (Pv (some (.int x)) (cells6 L t q T)) := by
  refine g_enter (lv := [(0, .ref t), (1, .int v1)]) kX6_hasWay rfl rfl (Nat.le_of_ble_eq_true rfl) (fun Γ C E hNL => ?_)
  unfold f_X6_hasWay at h
  refine g_iload_n C 1 1 dX6_hasWay_0 rfl rfl ?_
  refine g_if_lt C 16 4 dX6_hasWay_1 (by decide) rfl (fun c => ?_) (fun c => ?_)
  · have h := ifT c h
    refine g_iconst C 17 (0 : Int32) dX6_hasWay_16 rfl rfl ?_
    exact g_zret (st := []) C E dX6_hasWay_17 rfl (by obtain rfl := Option.some.inj h; exact ⟨rfl, rfl⟩)
  · have h := ifF c h
    refine g_iload_n C 5 1 dX6_hasWay_4 rfl rfl ?_
    refine g_aload_n C 6 0 dX6_hasWay_5 rfl rfl ?_
    refine g_get (v := .int (T.1 1)) C 9 6 0 1 hin_6 rfl rfl (by decide) wf_X6_15 rfl dX6_hasWay_6 rfl ?_
    refine g_icmp_ge C 16 12 dX6_hasWay_9 (by decide) rfl (fun c => ?_) (fun c => ?_)
    · have h := ifT c h
      refine g_iconst C 17 (0 : Int32) dX6_hasWay_16 rfl rfl ?_
      exact g_zret (st := []) C E dX6_hasWay_17 rfl (by obtain rfl := Option.some.inj h; exact ⟨rfl, rfl⟩)
    · have h := ifF c h
      refine g_iconst C 13 (1 : Int32) dX6_hasWay_12 rfl rfl ?_
      refine g_goto C 17 dX6_hasWay_13 (by decide) ?_
      exact g_zret (st := []) C E dX6_hasWay_17 rfl (by obtain rfl := Option.some.inj h; exact ⟨rfl, rfl⟩)
set_option maxHeartbeats 4000000 in
set_option maxRecDepth 100000 in
theorem ct_X6_ringMore (L : LL) (v0 : Int32) (x : Int32) (h : f_X6_ringMore v0 = some x) : Ct L yX6_ringMore cX6_ringMore 1 (some .int) (rmk 0 0 0 0) 0 0 [.int v0] [] (Pv (some (.int x)) []) := by
  refine g_enter (lv := [(0, .int v0)]) kX6_ringMore rfl rfl (Nat.le_of_ble_eq_true rfl) (fun Γ C E hNL => ?_)
  unfold f_X6_ringMore at h
  refine g_iload_n C 1 0 dX6_ringMore_0 rfl rfl ?_
  refine g_bipush C 3 (15 : Int32) dX6_ringMore_1 rfl rfl ?_
  refine g_icmp_lt C 16 6 dX6_ringMore_3 (by decide) rfl (fun c => ?_) (fun c => ?_)
  · have h := ifT c h
    refine g_iconst C 17 (1 : Int32) dX6_ringMore_16 rfl rfl ?_
    exact g_iret (st := []) C E dX6_ringMore_17 (by obtain rfl := Option.some.inj h; exact ⟨rfl, rfl⟩)
  · have h := ifF c h
    refine g_iload_n C 7 0 dX6_ringMore_6 rfl rfl ?_
    refine g_bipush C 9 (17 : Int32) dX6_ringMore_7 rfl rfl ?_
    refine g_icmp_gt C 16 12 dX6_ringMore_9 (by decide) rfl (fun c => ?_) (fun c => ?_)
    · have h := ifT c h
      refine g_iconst C 17 (1 : Int32) dX6_ringMore_16 rfl rfl ?_
      exact g_iret (st := []) C E dX6_ringMore_17 (by obtain rfl := Option.some.inj h; exact ⟨rfl, rfl⟩)
    · have h := ifF c h
      refine g_iconst C 13 (3 : Int32) dX6_ringMore_12 rfl rfl ?_
      refine g_goto C 17 dX6_ringMore_13 (by decide) ?_
      exact g_iret (st := []) C E dX6_ringMore_17 (by obtain rfl := Option.some.inj h; exact ⟨rfl, rfl⟩)
set_option maxHeartbeats 4000000 in
set_option maxRecDepth 100000 in
theorem ct_X6_hardOf (L : LL) (t : Nat) (q : Nat → Nat) (T : OS) (v1 : Int32) (v2 : Int32) (x : Int32) (h : f_X6_hardOf T v1 v2 = some x) : Ct L yX6_hardOf cX6_hardOf 4 (some .int) (rmk 1 0 0 21) 0 0 [.ref t, .int v1, .int v2] (cells6 L t q T) (Pv (some (.int x)) (cells6 L t q T)) := by
  refine g_enter (lv := [(0, .ref t), (1, .int v1), (2, .int v2)]) kX6_hardOf rfl rfl (Nat.le_of_ble_eq_true rfl) (fun Γ C E hNL => ?_)
  have J_75 : ∀ (v3 : Int32), j_X6_hardOf_75 T  v3 = some x → G L Γ 0 0 (cells6 L t q T) 75 [(3, .int v3)] [] := by
    intro v3 h
    unfold j_X6_hardOf_75 at h
    refine g_iconst C 76 (2 : Int32) dX6_hardOf_75 rfl rfl ?_
    refine g_iload_n C 77 0 dX6_hardOf_76 rfl rfl ?_
    refine g_iconst C 78 (2 : Int32) dX6_hardOf_77 rfl rfl ?_
    refine g_iadd C 79 dX6_hardOf_78 rfl ?_
    refine g_imul C 80 dX6_hardOf_79 rfl ?_
    refine g_goto C 86 dX6_hardOf_80 (by decide) ?_
    exact g_iret (st := []) C E dX6_hardOf_86 (by obtain rfl := Option.some.inj h; exact ⟨rfl, rfl⟩)
  unfold f_X6_hardOf at h
  refine g_aload_n C 1 0 dX6_hardOf_0 rfl rfl ?_
  refine g_get (v := .ref (q 7)) C 4 6 0 7 hin_6 rfl rfl (by decide) wf_X6_34 rfl dX6_hardOf_1 rfl ?_
  refine g_iload_n C 5 1 dX6_hardOf_4 rfl rfl ?_
  refine bnd h (fun x1 e1 h => ?_)
  refine g_callNr C 8 [] [.int x1] (ct_X7_at L (q 7) 8 (T.2 7) v1 x1 e1) kX7_at kvX7_at wn_X6_72 [2] rfl rfl rfl rfl rfl (Nat.le_of_ble_eq_true rfl) ⟨Nat.le_of_ble_eq_true rfl, Nat.le_of_ble_eq_true rfl⟩ ⟨Nat.zero_le _, Nat.zero_le _⟩ dX6_hardOf_5 rfl ?_
  refine g_istore_n C 9 3 [(3, .int x1), (0, .ref t), (1, .int v1), (2, .int v2)] dX6_hardOf_8 rfl rfl 4 hNL (by decide) rfl ?_
  refine g_aload_n C 10 1 dX6_hardOf_9 rfl rfl ?_
  refine g_get (v := .ref (q 6)) C 13 6 0 6 hin_6 rfl rfl (by decide) wf_X6_30 rfl dX6_hardOf_10 rfl ?_
  refine g_iload_n C 14 2 dX6_hardOf_13 rfl rfl ?_
  refine bnd h (fun x2 e2 h => ?_)
  refine g_callNr C 17 [] [.int x2] (ct_X7_at L (q 6) 8 (T.2 6) v1 x2 e2) kX7_at kvX7_at wn_X6_72 [1] rfl rfl rfl rfl rfl (Nat.le_of_ble_eq_true rfl) ⟨Nat.le_of_ble_eq_true rfl, Nat.le_of_ble_eq_true rfl⟩ ⟨Nat.zero_le _, Nat.zero_le _⟩ dX6_hardOf_14 rfl ?_
  by_cases c1 : x2 = (1 : Int32)
  · have h := ifT c1 h
    refine g_tabIn C 52 (35) dX6_hardOf_17 (by rw [c1]; decide) (by rw [c1]; decide) (by rw [c1]; rfl) (by decide) ?_
    refine g_iload_n C 53 0 dX6_hardOf_52 rfl rfl ?_
    refine g_iconst C 54 (2 : Int32) dX6_hardOf_53 rfl rfl ?_
    refine g_iadd C 55 dX6_hardOf_54 rfl ?_
    exact g_iret (st := []) C E dX6_hardOf_55 (by obtain rfl := Option.some.inj h; exact ⟨rfl, rfl⟩)
  have h := ifF c1 h
  by_cases c2 : x2 = (2 : Int32)
  · have h := ifT c2 h
    refine g_tabIn C 56 (39) dX6_hardOf_17 (by rw [c2]; decide) (by rw [c2]; decide) (by rw [c2]; rfl) (by decide) ?_
    refine g_iload_n C 57 0 dX6_hardOf_56 rfl rfl ?_
    refine g_iload_n C 58 3 dX6_hardOf_57 rfl rfl ?_
    refine bnd h (fun x3 e3 h => ?_)
    refine g_callSr C 61 [.int x1] [.int x3, .int x1] (ct_X6_ringMore L v2 x3 e3) kX6_ringMore kvX6_ringMore wl_X6_90 [] rfl rfl rfl rfl rfl (Nat.le_of_ble_eq_true rfl) ⟨Nat.le_of_ble_eq_true rfl, Nat.le_of_ble_eq_true rfl⟩ ⟨Nat.zero_le _, Nat.zero_le _⟩ dX6_hardOf_58 rfl ?_
    refine g_iadd C 62 dX6_hardOf_61 rfl ?_
    exact g_iret (st := []) C E dX6_hardOf_62 (by obtain rfl := Option.some.inj h; exact ⟨rfl, rfl⟩)
  have h := ifF c2 h
  by_cases c3 : x2 = (3 : Int32)
  · have h := ifT c3 h
    refine g_tabIn C 63 (46) dX6_hardOf_17 (by rw [c3]; decide) (by rw [c3]; decide) (by rw [c3]; rfl) (by decide) ?_
    refine g_iload_n C 64 3 dX6_hardOf_63 rfl rfl ?_
    refine g_bipush C 66 (8 : Int32) dX6_hardOf_64 rfl rfl ?_
    refine g_icmp_eq C 75 69 dX6_hardOf_66 (by decide) rfl (fun c => ?_) (fun c => ?_)
    · have h := ifT c h
      refine g_lv (lv' := [(3, .int x1)]) [0] rfl ?_
      exact J_75 _ h
    · have h := ifF c h
      refine g_iload_n C 70 3 dX6_hardOf_69 rfl rfl ?_
      refine g_bipush C 72 (15 : Int32) dX6_hardOf_70 rfl rfl ?_
      refine g_icmp_ne C 83 75 dX6_hardOf_72 (by decide) rfl (fun c => ?_) (fun c => ?_)
      · have h := ifF c h
        refine g_iload_n C 84 0 dX6_hardOf_83 rfl rfl ?_
        refine g_iconst C 85 (2 : Int32) dX6_hardOf_84 rfl rfl ?_
        refine g_iadd C 86 dX6_hardOf_85 rfl ?_
        exact g_iret (st := []) C E dX6_hardOf_86 (by obtain rfl := Option.some.inj h; exact ⟨rfl, rfl⟩)
      · have h := ifT c h
        refine g_lv (lv' := [(3, .int x1)]) [0] rfl ?_
        exact J_75 _ h
  have h := ifF c3 h
  by_cases c4 : x2 = (4 : Int32)
  · have h := ifT c4 h
    refine g_tabIn C 87 (70) dX6_hardOf_17 (by rw [c4]; decide) (by rw [c4]; decide) (by rw [c4]; rfl) (by decide) ?_
    refine g_iload_n C 88 0 dX6_hardOf_87 rfl rfl ?_
    refine g_iconst C 89 (2 : Int32) dX6_hardOf_88 rfl rfl ?_
    refine g_idiv C 90 dX6_hardOf_89 rfl (by decide) ?_
    exact g_iret (st := []) C E dX6_hardOf_90 (by obtain rfl := Option.some.inj h; exact ⟨rfl, rfl⟩)
  have h := ifF c4 h
  by_cases c5 : x2 = (5 : Int32)
  · have h := ifT c5 h
    refine g_tabIn C 91 (74) dX6_hardOf_17 (by rw [c5]; decide) (by rw [c5]; decide) (by rw [c5]; rfl) (by decide) ?_
    refine g_iload_n C 92 0 dX6_hardOf_91 rfl rfl ?_
    refine g_iload_n C 93 3 dX6_hardOf_92 rfl rfl ?_
    refine bnd h (fun x4 e4 h => ?_)
    refine g_callSr C 96 [.int x1] [.int x4, .int x1] (ct_X6_ringMore L v2 x4 e4) kX6_ringMore kvX6_ringMore wl_X6_90 [] rfl rfl rfl rfl rfl (Nat.le_of_ble_eq_true rfl) ⟨Nat.le_of_ble_eq_true rfl, Nat.le_of_ble_eq_true rfl⟩ ⟨Nat.zero_le _, Nat.zero_le _⟩ dX6_hardOf_93 rfl ?_
    refine g_iadd C 97 dX6_hardOf_96 rfl ?_
    refine g_iconst C 98 (1 : Int32) dX6_hardOf_97 rfl rfl ?_
    refine g_iadd C 99 dX6_hardOf_98 rfl ?_
    exact g_iret (st := []) C E dX6_hardOf_99 (by obtain rfl := Option.some.inj h; exact ⟨rfl, rfl⟩)
  have h := ifF c5 h
  have t1 := ne_toInt c1 (show ((1 : Int32) : Int32).toInt = 1 by decide +kernel)
  have t2 := ne_toInt c2 (show ((2 : Int32) : Int32).toInt = 2 by decide +kernel)
  have t3 := ne_toInt c3 (show ((3 : Int32) : Int32).toInt = 3 by decide +kernel)
  have t4 := ne_toInt c4 (show ((4 : Int32) : Int32).toInt = 4 by decide +kernel)
  have t5 := ne_toInt c5 (show ((5 : Int32) : Int32).toInt = 5 by decide +kernel)
  by_cases cr : (x2).toInt < 1 ∨ 5 < (x2).toInt
  · refine g_tabOut C 100 dX6_hardOf_17 cr (by decide) ?_
    refine g_iload_n C 101 0 dX6_hardOf_100 rfl rfl ?_
    exact g_iret (st := []) C E dX6_hardOf_101 (by obtain rfl := Option.some.inj h; exact ⟨rfl, rfl⟩)
  · exfalso; omega
set_option maxHeartbeats 4000000 in
set_option maxRecDepth 100000 in
theorem ct_X6_faultsFor (L : LL) (v0 : Int32) (v1 : Int32) (v2 : Int32) (x : Int32) (h : f_X6_faultsFor v0 v1 v2 = some x) : Ct L yX6_faultsFor cX6_faultsFor 4 (some .int) (rmk 1 0 0 21) 0 0 [.int v0, .int v1, .int v2] [] (Pv (some (.int x)) []) := by
  refine g_enter (lv := [(0, .int v0), (1, .int v1), (2, .int v2)]) kX6_faultsFor rfl rfl (Nat.le_of_ble_eq_true rfl) (fun Γ C E hNL => ?_)
  unfold f_X6_faultsFor at h
  refine g_iconst C 1 (0 : Int32) dX6_faultsFor_0 rfl rfl ?_
  refine g_iload_n C 2 0 dX6_faultsFor_1 rfl rfl ?_
  refine g_iload_n C 3 1 dX6_faultsFor_2 rfl rfl ?_
  refine g_isub C 4 dX6_faultsFor_3 rfl ?_
  refine g_mmax C 7 wm_X6_97 hs_max hi_math hc_max ⟨Nat.le_of_ble_eq_true rfl, Nat.le_of_ble_eq_true rfl⟩ ⟨Nat.le_of_ble_eq_true rfl, Nat.le_of_ble_eq_true rfl⟩ dX6_faultsFor_4 rfl ?_
  refine g_istore_n C 8 3 [(3, .int (maxI (0 : Int32) (v0 - v1))), (0, .int v0), (1, .int v1), (2, .int v2)] dX6_faultsFor_7 rfl rfl 4 hNL (by decide) rfl ?_
  refine g_iload_n C 9 3 dX6_faultsFor_8 rfl rfl ?_
  refine g_if_eq C 18 12 dX6_faultsFor_9 (by decide) rfl (fun c => ?_) (fun c => ?_)
  · have h := ifT c h
    refine g_iload_n C 19 0 dX6_faultsFor_18 rfl rfl ?_
    exact g_iret (st := []) C E dX6_faultsFor_19 (by obtain rfl := Option.some.inj h; exact ⟨rfl, rfl⟩)
  · have h := ifF c h
    refine g_iload_n C 13 0 dX6_faultsFor_12 rfl rfl ?_
    refine g_iconst C 14 (2 : Int32) dX6_faultsFor_13 rfl rfl ?_
    refine g_idiv C 15 dX6_faultsFor_14 rfl (by decide) ?_
    refine g_goto C 19 dX6_faultsFor_15 (by decide) ?_
    exact g_iret (st := []) C E dX6_faultsFor_19 (by obtain rfl := Option.some.inj h; exact ⟨rfl, rfl⟩)
set_option maxHeartbeats 4000000 in
set_option maxRecDepth 100000 in
theorem ct_X6_limitToPass (L : LL) (t : Nat) (q : Nat → Nat) (T : OS) (v1 : Int32) (v2 : Int32) (v3 : Int32) (v4 : Int32) (x : Int32) (h : f_X6_limitToPass T v1 v2 v3 v4 = some x) : Ct L yX6_limitToPass cX6_limitToPass 9 (some .int) (rmk 2 0 0 44) 0 0 [.ref t, .int v1, .int v2, .int v3, .int v4] (cells6 L t q T) (Pv (some (.int x)) (cells6 L t q T)) := by
  refine g_enter (lv := [(0, .ref t), (1, .int v1), (2, .int v2), (3, .int v3), (4, .int v4)]) kX6_limitToPass rfl rfl (Nat.le_of_ble_eq_true rfl) (fun Γ C E hNL => ?_)
  have J_16 : ∀ (n : Nat) (v2 : Int32) (v3 : Int32) (v4 : Int32) (v5 : Int32) (v6 : Int32) (v7 : Int32), Lp2 (b_X6_limitToPass_16 T  v2 v3 v4 v5) n v6 v7 = some x → G L Γ 0 0 (cells6 L t q T) 16 [(0, .ref t), (2, .int v2), (3, .int v3), (4, .int v4), (5, .int v5), (6, .int v6), (7, .int v7)] [] := by
    intro n v2 v3 v4 v5
    refine lp_ok2 (fun v6 v7 => G L Γ 0 0 (cells6 L t q T) 16 [(0, .ref t), (2, .int v2), (3, .int v3), (4, .int v4), (5, .int v5), (6, .int v6), (7, .int v7)] []) (fun k_16 hk_16 => ?_) n
    have J_72 : ∀ (v6 : Int32) (v7 : Int32), j_X6_limitToPass_72 T k_16 v2 v3 v4 v5 v6 v7 = some x → G L Γ 0 0 (cells6 L t q T) 72 [(0, .ref t), (2, .int v2), (3, .int v3), (4, .int v4), (5, .int v5), (6, .int v6), (7, .int v7)] [] := by
      intro v6 v7 h
      unfold j_X6_limitToPass_72 at h
      refine g_iinc C 75 (1 : Int32) 6 [(7, .int (v7 + (1 : Int32))), (0, .ref t), (2, .int v2), (3, .int v3), (4, .int v4), (5, .int v5), (6, .int v6)] dX6_limitToPass_72 rfl rfl 9 hNL (by decide) rfl rfl ?_
      refine g_goto C 16 dX6_limitToPass_75 (by decide) ?_
      refine g_lv (lv' := [(0, .ref t), (2, .int v2), (3, .int v3), (4, .int v4), (5, .int v5), (6, .int v6), (7, .int (v7 + (1 : Int32)))]) [1, 2, 3, 4, 5, 6, 0] rfl ?_
      exact hk_16 _ _ h
    intro v6 v7 h
    unfold b_X6_limitToPass_16 at h
    refine g_iload C 18 6 dX6_limitToPass_16 rfl rfl ?_
    refine g_aload_n C 19 0 dX6_limitToPass_18 rfl rfl ?_
    refine g_get (v := .int (T.1 0)) C 22 6 0 0 hin_6 rfl rfl (by decide) wf_X6_9 rfl dX6_limitToPass_19 rfl ?_
    refine g_icmp_ge C 78 25 dX6_limitToPass_22 (by decide) rfl (fun c => ?_) (fun c => ?_)
    · have h := ifT c h
      refine g_iload C 80 5 dX6_limitToPass_78 rfl rfl ?_
      exact g_iret (st := []) C E dX6_limitToPass_80 (by obtain rfl := Option.some.inj h; exact ⟨rfl, rfl⟩)
    · have h := ifF c h
      refine g_iload C 27 4 dX6_limitToPass_25 rfl rfl ?_
      refine g_iload C 29 6 dX6_limitToPass_27 rfl rfl ?_
      refine bnd h (fun x2 e2 h => ?_)
      refine g_callNr C 32 [] [.int x2] (ct_X7_has L v5 v7 x2 e2) kX7_has kvX7_has wn_X6_79 [] rfl rfl rfl rfl rfl (Nat.le_of_ble_eq_true rfl) ⟨Nat.le_of_ble_eq_true rfl, Nat.le_of_ble_eq_true rfl⟩ ⟨Nat.zero_le _, Nat.zero_le _⟩ dX6_limitToPass_29 rfl ?_
      refine g_if_eq C 72 35 dX6_limitToPass_32 (by decide) rfl (fun c => ?_) (fun c => ?_)
      · have h := ifT c h
        exact J_72 _ _ h
      · have h := ifF c h
        refine g_aload_n C 36 0 dX6_limitToPass_35 rfl rfl ?_
        refine g_iload C 38 6 dX6_limitToPass_36 rfl rfl ?_
        refine g_iload C 40 3 dX6_limitToPass_38 rfl rfl ?_
        refine bnd h (fun x3 e3 h => ?_)
        refine g_callVr C 43 [] [.int x3] (ct_X6_hardOf L t q T v7 v4 x3 e3) kX6_hardOf kvX6_hardOf wl_X6_93 6 0 rfl rfl rfl [0, 1, 2, 3, 4, 5, 6] rfl rfl rfl rfl rfl (Nat.le_of_ble_eq_true rfl) ⟨Nat.le_of_ble_eq_true rfl, Nat.le_of_ble_eq_true rfl⟩ ⟨Nat.zero_le _, Nat.zero_le _⟩ dX6_limitToPass_40 rfl ?_
        refine g_iload_n C 44 1 dX6_limitToPass_43 rfl rfl ?_
        refine g_iload_n C 45 2 dX6_limitToPass_44 rfl rfl ?_
        refine g_iload C 47 6 dX6_limitToPass_45 rfl rfl ?_
        refine bnd h (fun x4 e4 h => ?_)
        refine g_callNr C 50 [.int v2, .int x3] [.int x4, .int v2, .int x3] (ct_X7_has L v3 v7 x4 e4) kX7_has kvX7_has wn_X6_79 [] rfl rfl rfl rfl rfl (Nat.le_of_ble_eq_true rfl) ⟨Nat.le_of_ble_eq_true rfl, Nat.le_of_ble_eq_true rfl⟩ ⟨Nat.zero_le _, Nat.zero_le _⟩ dX6_limitToPass_47 rfl ?_
        refine bnd h (fun x5 e5 h => ?_)
        refine g_callSr C 53 [] [.int x5] (ct_X6_faultsFor L x3 v2 x4 x5 e5) kX6_faultsFor kvX6_faultsFor wl_X6_102 [] rfl rfl rfl rfl rfl (Nat.le_of_ble_eq_true rfl) ⟨Nat.le_of_ble_eq_true rfl, Nat.le_of_ble_eq_true rfl⟩ ⟨Nat.zero_le _, Nat.zero_le _⟩ dX6_limitToPass_50 rfl ?_
        refine g_istore C 55 8 [(8, .int x5), (0, .ref t), (2, .int v2), (3, .int v3), (4, .int v4), (5, .int v5), (6, .int v6), (7, .int v7)] dX6_limitToPass_53 rfl 9 hNL (by decide) rfl ?_
        refine g_iload C 57 0 dX6_limitToPass_55 rfl rfl ?_
        refine g_iconst C 58 (5 : Int32) dX6_limitToPass_57 rfl rfl ?_
        refine g_icmp_le C 65 61 dX6_limitToPass_58 (by decide) rfl (fun c => ?_) (fun c => ?_)
        · have h := ifT c h
          refine g_iload C 67 6 dX6_limitToPass_65 rfl rfl ?_
          refine g_iload C 69 0 dX6_limitToPass_67 rfl rfl ?_
          refine g_iadd C 70 dX6_limitToPass_69 rfl ?_
          refine g_istore C 72 6 [(6, .int (v6 + x5)), (8, .int x5), (0, .ref t), (2, .int v2), (3, .int v3), (4, .int v4), (5, .int v5), (7, .int v7)] dX6_limitToPass_70 rfl 9 hNL (by decide) rfl ?_
          refine g_lv (lv' := [(0, .ref t), (2, .int v2), (3, .int v3), (4, .int v4), (5, .int v5), (6, .int (v6 + x5)), (7, .int v7)]) [2, 3, 4, 5, 6, 0, 7] rfl ?_
          exact J_72 _ _ h
        · have h := ifF c h
          refine g_sipush C 64 (1000 : Int32) dX6_limitToPass_61 rfl rfl ?_
          exact g_iret (st := []) C E dX6_limitToPass_64 (by obtain rfl := Option.some.inj h; exact ⟨rfl, rfl⟩)
  unfold f_X6_limitToPass at h
  refine g_aload_n C 1 0 dX6_limitToPass_0 rfl rfl ?_
  refine g_get (v := .ref (q 9)) C 4 6 0 9 hin_6 rfl rfl (by decide) wf_X6_40 rfl dX6_limitToPass_1 rfl ?_
  refine g_iload_n C 5 1 dX6_limitToPass_4 rfl rfl ?_
  refine bnd h (fun x1 e1 h => ?_)
  refine g_callNr C 8 [] [.int x1] (ct_X7_at L (q 9) 6 (T.2 9) v1 x1 e1) kX7_at kvX7_at wn_X6_72 [4] rfl rfl rfl rfl rfl (Nat.le_of_ble_eq_true rfl) ⟨Nat.le_of_ble_eq_true rfl, Nat.le_of_ble_eq_true rfl⟩ ⟨Nat.zero_le _, Nat.zero_le _⟩ dX6_limitToPass_5 rfl ?_
  refine g_istore C 10 5 [(5, .int x1), (0, .ref t), (1, .int v1), (2, .int v2), (3, .int v3), (4, .int v4)] dX6_limitToPass_8 rfl 9 hNL (by decide) rfl ?_
  refine g_iconst C 11 (0 : Int32) dX6_limitToPass_10 rfl rfl ?_
  refine g_istore C 13 6 [(6, .int (0 : Int32)), (5, .int x1), (0, .ref t), (1, .int v1), (2, .int v2), (3, .int v3), (4, .int v4)] dX6_limitToPass_11 rfl 9 hNL (by decide) rfl ?_
  refine g_iconst C 14 (0 : Int32) dX6_limitToPass_13 rfl rfl ?_
  refine g_istore C 16 7 [(7, .int (0 : Int32)), (6, .int (0 : Int32)), (5, .int x1), (0, .ref t), (1, .int v1), (2, .int v2), (3, .int v3), (4, .int v4)] dX6_limitToPass_14 rfl 9 hNL (by decide) rfl ?_
  refine g_lv (lv' := [(0, .ref t), (2, .int v2), (3, .int v3), (4, .int v4), (5, .int x1), (6, .int (0 : Int32)), (7, .int (0 : Int32))]) [3, 5, 6, 7, 2, 1, 0] rfl ?_
  exact J_16 _ _ _ _ _ _ _ h
set_option maxHeartbeats 4000000 in
set_option maxRecDepth 100000 in
theorem ct_X6_passes (L : LL) (t : Nat) (q : Nat → Nat) (T : OS) (v1 : Int32) (v2 : Int32) (v3 : Int32) (x : Int32) (h : f_X6_passes T v1 v2 v3 = some x) : Ct L yX6_passes cX6_passes 4 (some .boolean) (rmk 3 0 0 72) 0 0 [.ref t, .int v1, .int v2, .int v3] (cells6 L t q T) (Pv (some (.int x)) (cells6 L t q T)) := by
  refine g_enter (lv := [(0, .ref t), (1, .int v1), (2, .int v2), (3, .int v3)]) kX6_passes rfl rfl (Nat.le_of_ble_eq_true rfl) (fun Γ C E hNL => ?_)
  unfold f_X6_passes at h
  refine g_aload_n C 1 0 dX6_passes_0 rfl rfl ?_
  refine g_iload_n C 2 2 dX6_passes_1 rfl rfl ?_
  refine g_aload_n C 3 0 dX6_passes_2 rfl rfl ?_
  refine g_get (v := .ref (q 10)) C 6 6 0 10 hin_6 rfl rfl (by decide) wf_X6_43 rfl dX6_passes_3 rfl ?_
  refine g_iload_n C 7 1 dX6_passes_6 rfl rfl ?_
  refine bnd h (fun x1 e1 h => ?_)
  refine g_callNr C 10 [.int v2, .ref t] [.int x1, .int v2, .ref t] (ct_X7_at L (q 10) 5 (T.2 10) v1 x1 e1) kX7_at kvX7_at wn_X6_72 [5] rfl rfl rfl rfl rfl (Nat.le_of_ble_eq_true rfl) ⟨Nat.le_of_ble_eq_true rfl, Nat.le_of_ble_eq_true rfl⟩ ⟨Nat.zero_le _, Nat.zero_le _⟩ dX6_passes_7 rfl ?_
  refine g_aload_n C 11 0 dX6_passes_10 rfl rfl ?_
  refine g_get (v := .ref (q 11)) C 14 6 0 11 hin_6 rfl rfl (by decide) wf_X6_46 rfl dX6_passes_11 rfl ?_
  refine g_iload_n C 15 1 dX6_passes_14 rfl rfl ?_
  refine bnd h (fun x2 e2 h => ?_)
  refine g_callNr C 18 [.int x1, .int v2, .ref t] [.int x2, .int x1, .int v2, .ref t] (ct_X7_at L (q 11) 5 (T.2 11) v1 x2 e2) kX7_at kvX7_at wn_X6_72 [6] rfl rfl rfl rfl rfl (Nat.le_of_ble_eq_true rfl) ⟨Nat.le_of_ble_eq_true rfl, Nat.le_of_ble_eq_true rfl⟩ ⟨Nat.zero_le _, Nat.zero_le _⟩ dX6_passes_15 rfl ?_
  refine g_iload_n C 19 3 dX6_passes_18 rfl rfl ?_
  refine bnd h (fun x3 e3 h => ?_)
  refine g_callVr C 22 [] [.int x3] (ct_X6_limitToPass L t q T v2 x1 x2 v3 x3 e3) kX6_limitToPass kvX6_limitToPass wl_X6_110 6 0 rfl rfl rfl [0, 1, 2, 3, 4, 5, 6] rfl rfl rfl rfl rfl (Nat.le_of_ble_eq_true rfl) ⟨Nat.le_of_ble_eq_true rfl, Nat.le_of_ble_eq_true rfl⟩ ⟨Nat.zero_le _, Nat.zero_le _⟩ dX6_passes_19 rfl ?_
  refine g_aload_n C 23 0 dX6_passes_22 rfl rfl ?_
  refine g_get (v := .int (T.1 4)) C 26 6 0 4 hin_6 rfl rfl (by decide) wf_X6_24 rfl dX6_passes_23 rfl ?_
  refine g_icmp_gt C 33 29 dX6_passes_26 (by decide) rfl (fun c => ?_) (fun c => ?_)
  · have h := ifT c h
    refine g_iconst C 34 (0 : Int32) dX6_passes_33 rfl rfl ?_
    exact g_zret (st := []) C E dX6_passes_34 rfl (by obtain rfl := Option.some.inj h; exact ⟨rfl, rfl⟩)
  · have h := ifF c h
    refine g_iconst C 30 (1 : Int32) dX6_passes_29 rfl rfl ?_
    refine g_goto C 34 dX6_passes_30 (by decide) ?_
    exact g_zret (st := []) C E dX6_passes_34 rfl (by obtain rfl := Option.some.inj h; exact ⟨rfl, rfl⟩)
set_option maxHeartbeats 4000000 in
set_option maxRecDepth 100000 in
theorem ct_X6_test (L : LL) (t : Nat) (q : Nat → Nat) (T : OS) (v1 : Int32) (v2 : Int32) (x : (Int32 × OS)) (h : f_X6_test T v1 v2 = some x) : Ct L yX6_test cX6_test 4 (some .int) (rmk 4 0 0 95) 0 0 [.ref t, .int v1, .int v2] (cells6 L t q T) (Pv (some (.int x.1)) (cells6 L t q x.2)) := by
  refine g_enter (lv := [(0, .ref t), (1, .int v1), (2, .int v2)]) kX6_test rfl rfl (Nat.le_of_ble_eq_true rfl) (fun Γ C E hNL => ?_)
  have J_36 : ∀ (v1 : Int32) (v2 : Int32) (s0 : Int32) (T : OS), j_X6_test_36   v1 v2 s0 T = some x → G L Γ 0 0 (cells6 L t q T) 36 [(0, .ref t), (1, .int v1), (2, .int v2)] [.int s0] := by
    intro v1 v2 s0 T h
    unfold j_X6_test_36 at h
    refine g_istore_n C 37 3 [(3, .int s0), (0, .ref t), (1, .int v1), (2, .int v2)] dX6_test_36 rfl rfl 4 hNL (by decide) rfl ?_
    refine g_aload_n C 38 1 dX6_test_37 rfl rfl ?_
    refine g_get (v := .ref (q 11)) C 41 6 0 11 hin_6 rfl rfl (by decide) wf_X6_46 rfl dX6_test_38 rfl ?_
    refine g_iload_n C 42 2 dX6_test_41 rfl rfl ?_
    refine g_aload_n C 43 1 dX6_test_42 rfl rfl ?_
    refine g_get (v := .ref (q 11)) C 46 6 0 11 hin_6 rfl rfl (by decide) wf_X6_46 rfl dX6_test_43 rfl ?_
    refine g_iload_n C 47 2 dX6_test_46 rfl rfl ?_
    refine bnd h (fun x4 e4 h => ?_)
    refine g_callNr C 50 [.int v1, .ref (q 11)] [.int x4, .int v1, .ref (q 11)] (ct_X7_at L (q 11) 5 (T.2 11) v1 x4 e4) kX7_at kvX7_at wn_X6_72 [6] rfl rfl rfl rfl rfl (Nat.le_of_ble_eq_true rfl) ⟨Nat.le_of_ble_eq_true rfl, Nat.le_of_ble_eq_true rfl⟩ ⟨Nat.zero_le _, Nat.zero_le _⟩ dX6_test_47 rfl ?_
    refine g_aload_n C 51 1 dX6_test_50 rfl rfl ?_
    refine g_get (v := .ref (q 9)) C 54 6 0 9 hin_6 rfl rfl (by decide) wf_X6_40 rfl dX6_test_51 rfl ?_
    refine g_iload_n C 55 3 dX6_test_54 rfl rfl ?_
    refine bnd h (fun x5 e5 h => ?_)
    refine g_callNr C 58 [.int x4, .int v1, .ref (q 11)] [.int x5, .int x4, .int v1, .ref (q 11)] (ct_X7_at L (q 9) 6 (T.2 9) v2 x5 e5) kX7_at kvX7_at wn_X6_72 [4] rfl rfl rfl rfl rfl (Nat.le_of_ble_eq_true rfl) ⟨Nat.le_of_ble_eq_true rfl, Nat.le_of_ble_eq_true rfl⟩ ⟨Nat.zero_le _, Nat.zero_le _⟩ dX6_test_55 rfl ?_
    refine g_ior C 59 dX6_test_58 rfl ?_
    refine bnd h (fun x6 e6 h => ?_)
    refine g_callNw (w' := (cells6 L t q (sa T 11 x6))) C 62 [] [] (ct_X7_store L (q 11) 5 (T.2 11) v1 (x4 ||| x5) x6 e6) kX7_store kvX7_store wn_X6_53 [6] rfl rfl rfl rfl rfl rfl rfl (Nat.le_of_ble_eq_true rfl) ⟨Nat.le_of_ble_eq_true rfl, Nat.le_of_ble_eq_true rfl⟩ ⟨Nat.zero_le _, Nat.zero_le _⟩ dX6_test_59 rfl ?_
    refine g_iload_n C 63 0 dX6_test_62 rfl rfl ?_
    exact g_iret (st := []) C E dX6_test_63 (by obtain rfl := Option.some.inj h; exact ⟨rfl, rfl⟩)
  unfold f_X6_test at h
  refine g_aload_n C 1 0 dX6_test_0 rfl rfl ?_
  refine g_iload_n C 2 1 dX6_test_1 rfl rfl ?_
  refine bnd h (fun x1 e1 h => ?_)
  refine g_callVr C 5 [] [.int x1] (ct_X6_hasLearner L t q T v1 x1 e1) kX6_hasLearner kvX6_hasLearner wl_X6_61 6 0 rfl rfl rfl [0, 1, 2, 3, 4, 5, 6] rfl rfl rfl rfl rfl (Nat.le_of_ble_eq_true rfl) ⟨Nat.le_of_ble_eq_true rfl, Nat.le_of_ble_eq_true rfl⟩ ⟨Nat.zero_le _, Nat.zero_le _⟩ dX6_test_2 rfl ?_
  refine g_if_eq C 16 8 dX6_test_5 (by decide) rfl (fun c => ?_) (fun c => ?_)
  · have h := ifT c h
    refine g_iconst C 17 (-1 : Int32) dX6_test_16 rfl rfl ?_
    exact g_iret (st := []) C E dX6_test_17 (by obtain rfl := Option.some.inj h; exact ⟨rfl, rfl⟩)
  · have h := ifF c h
    refine g_aload_n C 9 0 dX6_test_8 rfl rfl ?_
    refine g_iload_n C 10 2 dX6_test_9 rfl rfl ?_
    refine bnd h (fun x2 e2 h => ?_)
    refine g_callVr C 13 [] [.int x2] (ct_X6_hasWay L t q T v2 x2 e2) kX6_hasWay kvX6_hasWay wl_X6_65 6 0 rfl rfl rfl [0, 1, 2, 3, 4, 5, 6] rfl rfl rfl rfl rfl (Nat.le_of_ble_eq_true rfl) ⟨Nat.le_of_ble_eq_true rfl, Nat.le_of_ble_eq_true rfl⟩ ⟨Nat.zero_le _, Nat.zero_le _⟩ dX6_test_10 rfl ?_
    refine g_if_ne C 18 16 dX6_test_13 (by decide) rfl (fun c => ?_) (fun c => ?_)
    · have h := ifF c h
      refine g_aload_n C 19 0 dX6_test_18 rfl rfl ?_
      refine g_iload_n C 20 1 dX6_test_19 rfl rfl ?_
      refine g_iload_n C 21 2 dX6_test_20 rfl rfl ?_
      refine g_aload_n C 22 0 dX6_test_21 rfl rfl ?_
      refine g_get (v := .int (T.1 3)) C 25 6 0 3 hin_6 rfl rfl (by decide) wf_X6_21 rfl dX6_test_22 rfl ?_
      refine bnd h (fun x3 e3 h => ?_)
      refine g_callVr C 28 [] [.int x3] (ct_X6_passes L t q T v1 v2 (T.1 3) x3 e3) kX6_passes kvX6_passes wl_X6_68 6 0 rfl rfl rfl [0, 1, 2, 3, 4, 5, 6] rfl rfl rfl rfl rfl (Nat.le_of_ble_eq_true rfl) ⟨Nat.le_of_ble_eq_true rfl, Nat.le_of_ble_eq_true rfl⟩ ⟨Nat.zero_le _, Nat.zero_le _⟩ dX6_test_25 rfl ?_
      refine g_if_eq C 35 31 dX6_test_28 (by decide) rfl (fun c => ?_) (fun c => ?_)
      · have h := ifT c h
        refine g_iconst C 36 (0 : Int32) dX6_test_35 rfl rfl ?_
        exact J_36 _ _ _ _ h
      · have h := ifF c h
        refine g_iconst C 32 (1 : Int32) dX6_test_31 rfl rfl ?_
        refine g_goto C 36 dX6_test_32 (by decide) ?_
        exact J_36 _ _ _ _ h
    · have h := ifT c h
      refine g_iconst C 17 (-1 : Int32) dX6_test_16 rfl rfl ?_
      exact g_iret (st := []) C E dX6_test_17 (by obtain rfl := Option.some.inj h; exact ⟨rfl, rfl⟩)
set_option maxHeartbeats 4000000 in
set_option maxRecDepth 100000 in
theorem ct_X6_withoutGreatest (L : LL) (v0 : Int32) (x : Int32) (h : f_X6_withoutGreatest v0 = some x) : Ct L yX6_withoutGreatest cX6_withoutGreatest 2 (some .int) (rmk 1 0 0 21) 0 0 [.int v0] [] (Pv (some (.int x)) []) := by
  refine g_enter (lv := [(0, .int v0)]) kX6_withoutGreatest rfl rfl (Nat.le_of_ble_eq_true rfl) (fun Γ C E hNL => ?_)
  have J_3 : ∀ (n : Nat) (v0 : Int32) (v1 : Int32), Lp1 (b_X6_withoutGreatest_3   v0) n v1 = some x → G L Γ 0 0 [] 3 [(0, .int v0), (1, .int v1)] [] := by
    intro n v0
    refine lp_ok1 (fun v1 => G L Γ 0 0 [] 3 [(0, .int v0), (1, .int v1)] []) (fun k_3 hk_3 => ?_) n
    intro v1 h
    unfold b_X6_withoutGreatest_3 at h
    refine g_iload_n C 4 1 dX6_withoutGreatest_3 rfl rfl ?_
    refine g_if_lt C 27 7 dX6_withoutGreatest_4 (by decide) rfl (fun c => ?_) (fun c => ?_)
    · have h := ifT c h
      refine g_iload_n C 28 0 dX6_withoutGreatest_27 rfl rfl ?_
      exact g_iret (st := []) C E dX6_withoutGreatest_28 (by obtain rfl := Option.some.inj h; exact ⟨rfl, rfl⟩)
    · have h := ifF c h
      refine g_iload_n C 8 0 dX6_withoutGreatest_7 rfl rfl ?_
      refine g_iload_n C 9 1 dX6_withoutGreatest_8 rfl rfl ?_
      refine bnd h (fun x1 e1 h => ?_)
      refine g_callNr C 12 [] [.int x1] (ct_X7_has L v0 v1 x1 e1) kX7_has kvX7_has wn_X6_79 [] rfl rfl rfl rfl rfl (Nat.le_of_ble_eq_true rfl) ⟨Nat.le_of_ble_eq_true rfl, Nat.le_of_ble_eq_true rfl⟩ ⟨Nat.zero_le _, Nat.zero_le _⟩ dX6_withoutGreatest_9 rfl ?_
      refine g_if_eq C 21 15 dX6_withoutGreatest_12 (by decide) rfl (fun c => ?_) (fun c => ?_)
      · have h := ifT c h
        refine g_iinc C 24 (-1 : Int32) 1 [(1, .int (v1 + (-1 : Int32))), (0, .int v0)] dX6_withoutGreatest_21 rfl rfl 2 hNL (by decide) rfl rfl ?_
        refine g_goto C 3 dX6_withoutGreatest_24 (by decide) ?_
        refine g_lv (lv' := [(0, .int v0), (1, .int (v1 + (-1 : Int32)))]) [1, 0] rfl ?_
        exact hk_3 _ h
      · have h := ifF c h
        refine g_iload_n C 16 0 dX6_withoutGreatest_15 rfl rfl ?_
        refine g_iconst C 17 (1 : Int32) dX6_withoutGreatest_16 rfl rfl ?_
        refine g_iload_n C 18 1 dX6_withoutGreatest_17 rfl rfl ?_
        refine g_ishl C 19 dX6_withoutGreatest_18 rfl ?_
        refine g_ixor C 20 dX6_withoutGreatest_19 rfl ?_
        exact g_iret (st := []) C E dX6_withoutGreatest_20 (by obtain rfl := Option.some.inj h; exact ⟨rfl, rfl⟩)
  unfold f_X6_withoutGreatest at h
  refine g_bipush C 2 (7 : Int32) dX6_withoutGreatest_0 rfl rfl ?_
  refine g_istore_n C 3 1 [(1, .int (7 : Int32)), (0, .int v0)] dX6_withoutGreatest_2 rfl rfl 2 hNL (by decide) rfl ?_
  refine g_lv (lv' := [(0, .int v0), (1, .int (7 : Int32))]) [1, 0] rfl ?_
  exact J_3 _ _ _ h
set_option maxHeartbeats 4000000 in
set_option maxRecDepth 100000 in
theorem ct_X6_nextDay (L : LL) (t : Nat) (q : Nat → Nat) (T : OS) (x : (Int32 × OS)) (h : f_X6_nextDay T = some x) : Ct L yX6_nextDay cX6_nextDay 2 (some .int) (rmk 2 0 0 42) 0 0 [.ref t] (cells6 L t q T) (Pv (some (.int x.1)) (cells6 L t q x.2)) := by
  refine g_enter (lv := [(0, .ref t)]) kX6_nextDay rfl rfl (Nat.le_of_ble_eq_true rfl) (fun Γ C E hNL => ?_)
  have J_31 : ∀ (n : Nat)  (v1 : Int32) (T : OS), Lp2 (b_X6_nextDay_31   ) n v1 T = some x → G L Γ 0 0 (cells6 L t q T) 31 [(0, .ref t), (1, .int v1)] [] := by
    intro n 
    refine lp_ok2 (fun v1 T => G L Γ 0 0 (cells6 L t q T) 31 [(0, .ref t), (1, .int v1)] []) (fun k_31 hk_31 => ?_) n
    intro v1 T h
    unfold b_X6_nextDay_31 at h
    refine g_iload_n C 32 1 dX6_nextDay_31 rfl rfl ?_
    refine g_aload_n C 33 0 dX6_nextDay_32 rfl rfl ?_
    refine g_get (v := .int (T.1 2)) C 36 6 0 2 hin_6 rfl rfl (by decide) wf_X6_18 rfl dX6_nextDay_33 rfl ?_
    refine g_icmp_ge C 64 39 dX6_nextDay_36 (by decide) rfl (fun c => ?_) (fun c => ?_)
    · have h := ifT c h
      refine g_aload_n C 65 0 dX6_nextDay_64 rfl rfl ?_
      refine g_get (v := .int (T.1 5)) C 68 6 0 5 hin_6 rfl rfl (by decide) wf_X6_27 rfl dX6_nextDay_65 rfl ?_
      exact g_iret (st := []) C E dX6_nextDay_68 (by obtain rfl := Option.some.inj h; exact ⟨rfl, rfl⟩)
    · have h := ifF c h
      refine g_aload_n C 40 0 dX6_nextDay_39 rfl rfl ?_
      refine g_get (v := .ref (q 11)) C 43 6 0 11 hin_6 rfl rfl (by decide) wf_X6_46 rfl dX6_nextDay_40 rfl ?_
      refine g_iload_n C 44 1 dX6_nextDay_43 rfl rfl ?_
      refine g_aload_n C 45 0 dX6_nextDay_44 rfl rfl ?_
      refine g_get (v := .ref (q 11)) C 48 6 0 11 hin_6 rfl rfl (by decide) wf_X6_46 rfl dX6_nextDay_45 rfl ?_
      refine g_iload_n C 49 1 dX6_nextDay_48 rfl rfl ?_
      refine bnd h (fun x1 e1 h => ?_)
      refine g_callNr C 52 [.int v1, .ref (q 11)] [.int x1, .int v1, .ref (q 11)] (ct_X7_at L (q 11) 5 (T.2 11) v1 x1 e1) kX7_at kvX7_at wn_X6_72 [6] rfl rfl rfl rfl rfl (Nat.le_of_ble_eq_true rfl) ⟨Nat.le_of_ble_eq_true rfl, Nat.le_of_ble_eq_true rfl⟩ ⟨Nat.zero_le _, Nat.zero_le _⟩ dX6_nextDay_49 rfl ?_
      refine bnd h (fun x2 e2 h => ?_)
      refine g_callSr C 55 [.int v1, .ref (q 11)] [.int x2, .int v1, .ref (q 11)] (ct_X6_withoutGreatest L x1 x2 e2) kX6_withoutGreatest kvX6_withoutGreatest wl_X6_86 [] rfl rfl rfl rfl rfl (Nat.le_of_ble_eq_true rfl) ⟨Nat.le_of_ble_eq_true rfl, Nat.le_of_ble_eq_true rfl⟩ ⟨Nat.zero_le _, Nat.zero_le _⟩ dX6_nextDay_52 rfl ?_
      refine bnd h (fun x3 e3 h => ?_)
      refine g_callNw (w' := (cells6 L t q (sa T 11 x3))) C 58 [] [] (ct_X7_store L (q 11) 5 (T.2 11) v1 x2 x3 e3) kX7_store kvX7_store wn_X6_53 [6] rfl rfl rfl rfl rfl rfl rfl (Nat.le_of_ble_eq_true rfl) ⟨Nat.le_of_ble_eq_true rfl, Nat.le_of_ble_eq_true rfl⟩ ⟨Nat.zero_le _, Nat.zero_le _⟩ dX6_nextDay_55 rfl ?_
      refine g_iinc C 61 (1 : Int32) 1 [(1, .int (v1 + (1 : Int32))), (0, .ref t)] dX6_nextDay_58 rfl rfl 2 hNL (by decide) rfl rfl ?_
      refine g_goto C 31 dX6_nextDay_61 (by decide) ?_
      refine g_lv (lv' := [(0, .ref t), (1, .int (v1 + (1 : Int32)))]) [1, 0] rfl ?_
      exact hk_31 _ _ h
  unfold f_X6_nextDay at h
  refine g_aload_n C 1 0 dX6_nextDay_0 rfl rfl ?_
  refine g_get (v := .int (T.1 5)) C 4 6 0 5 hin_6 rfl rfl (by decide) wf_X6_27 rfl dX6_nextDay_1 rfl ?_
  refine g_sipush C 7 (999 : Int32) dX6_nextDay_4 rfl rfl ?_
  refine g_icmp_lt C 13 10 dX6_nextDay_7 (by decide) rfl (fun c => ?_) (fun c => ?_)
  · have h := ifT c h
    refine g_aload_n C 14 0 dX6_nextDay_13 rfl rfl ?_
    refine g_dup C 15 dX6_nextDay_14 rfl rfl ?_
    refine g_get (v := .int (T.1 5)) C 18 6 0 5 hin_6 rfl rfl (by decide) wf_X6_27 rfl dX6_nextDay_15 rfl ?_
    refine g_iconst C 19 (1 : Int32) dX6_nextDay_18 rfl rfl ?_
    refine g_iadd C 20 dX6_nextDay_19 rfl ?_
    refine g_put (w' := (cells6 L t q (su T 5 ((T.1 5) + (1 : Int32))))) C 23 6 0 5 hin_6 tyX6 tyX6_ok nmX6 rfl rfl (by decide) wf_X6_27 rfl rfl rfl (Nat.le_of_ble_eq_true rfl) dX6_nextDay_20 rfl rfl ?_
    refine g_aload_n C 24 0 dX6_nextDay_23 rfl rfl ?_
    refine g_bipush C 26 (8 : Int32) dX6_nextDay_24 rfl rfl ?_
    refine g_put (w' := (cells6 L t q (su (su T 5 ((T.1 5) + (1 : Int32))) 3 (8 : Int32)))) C 29 6 0 3 hin_6 tyX6 tyX6_ok nmX6 rfl rfl (by decide) wf_X6_21 rfl rfl rfl (Nat.le_of_ble_eq_true rfl) dX6_nextDay_26 rfl rfl ?_
    refine g_iconst C 30 (0 : Int32) dX6_nextDay_29 rfl rfl ?_
    refine g_istore_n C 31 1 [(1, .int (0 : Int32)), (0, .ref t)] dX6_nextDay_30 rfl rfl 2 hNL (by decide) rfl ?_
    refine g_lv (lv' := [(0, .ref t), (1, .int (0 : Int32))]) [1, 0] rfl ?_
    exact J_31 _ _ _ h
  · have h := ifF c h
    refine g_bipush C 12 (-6 : Int32) dX6_nextDay_10 rfl rfl ?_
    exact g_iret (st := []) C E dX6_nextDay_12 (by obtain rfl := Option.some.inj h; exact ⟨rfl, rfl⟩)
set_option maxHeartbeats 4000000 in
set_option maxRecDepth 100000 in
theorem ct_X6_faultsIn (L : LL) (t : Nat) (q : Nat → Nat) (T : OS) (v1 : Int32) (v2 : Int32) (v3 : Int32) (x : Int32) (h : f_X6_faultsIn T v1 v2 v3 = some x) : Ct L yX6_faultsIn cX6_faultsIn 5 (some .int) (rmk 2 0 0 44) 0 0 [.ref t, .int v1, .int v2, .int v3] (cells6 L t q T) (Pv (some (.int x)) (cells6 L t q T)) := by
  refine g_enter (lv := [(0, .ref t), (1, .int v1), (2, .int v2), (3, .int v3)]) kX6_faultsIn rfl rfl (Nat.le_of_ble_eq_true rfl) (fun Γ C E hNL => ?_)
  unfold f_X6_faultsIn at h
  refine g_aload_n C 1 0 dX6_faultsIn_0 rfl rfl ?_
  refine g_get (v := .ref (q 11)) C 4 6 0 11 hin_6 rfl rfl (by decide) wf_X6_46 rfl dX6_faultsIn_1 rfl ?_
  refine g_iload_n C 5 1 dX6_faultsIn_4 rfl rfl ?_
  refine bnd h (fun x1 e1 h => ?_)
  refine g_callNr C 8 [] [.int x1] (ct_X7_at L (q 11) 5 (T.2 11) v1 x1 e1) kX7_at kvX7_at wn_X6_72 [6] rfl rfl rfl rfl rfl (Nat.le_of_ble_eq_true rfl) ⟨Nat.le_of_ble_eq_true rfl, Nat.le_of_ble_eq_true rfl⟩ ⟨Nat.zero_le _, Nat.zero_le _⟩ dX6_faultsIn_5 rfl ?_
  refine g_iload_n C 9 2 dX6_faultsIn_8 rfl rfl ?_
  refine bnd h (fun x2 e2 h => ?_)
  refine g_callNr C 12 [] [.int x2] (ct_X7_has L x1 v2 x2 e2) kX7_has kvX7_has wn_X6_79 [] rfl rfl rfl rfl rfl (Nat.le_of_ble_eq_true rfl) ⟨Nat.le_of_ble_eq_true rfl, Nat.le_of_ble_eq_true rfl⟩ ⟨Nat.zero_le _, Nat.zero_le _⟩ dX6_faultsIn_9 rfl ?_
  refine g_istore C 14 4 [(4, .int x2), (0, .ref t), (1, .int v1), (2, .int v2), (3, .int v3)] dX6_faultsIn_12 rfl 5 hNL (by decide) rfl ?_
  refine g_aload_n C 15 1 dX6_faultsIn_14 rfl rfl ?_
  refine g_iload_n C 16 3 dX6_faultsIn_15 rfl rfl ?_
  refine g_iload_n C 17 4 dX6_faultsIn_16 rfl rfl ?_
  refine bnd h (fun x3 e3 h => ?_)
  refine g_callVr C 20 [] [.int x3] (ct_X6_hardOf L t q T v2 v3 x3 e3) kX6_hardOf kvX6_hardOf wl_X6_93 6 0 rfl rfl rfl [0, 1, 2, 3, 4, 5, 6] rfl rfl rfl rfl rfl (Nat.le_of_ble_eq_true rfl) ⟨Nat.le_of_ble_eq_true rfl, Nat.le_of_ble_eq_true rfl⟩ ⟨Nat.zero_le _, Nat.zero_le _⟩ dX6_faultsIn_17 rfl ?_
  refine g_aload_n C 21 1 dX6_faultsIn_20 rfl rfl ?_
  refine g_get (v := .ref (q 10)) C 24 6 0 10 hin_6 rfl rfl (by decide) wf_X6_43 rfl dX6_faultsIn_21 rfl ?_
  refine g_iload_n C 25 2 dX6_faultsIn_24 rfl rfl ?_
  refine bnd h (fun x4 e4 h => ?_)
  refine g_callNr C 28 [.int x3] [.int x4, .int x3] (ct_X7_at L (q 10) 5 (T.2 10) v1 x4 e4) kX7_at kvX7_at wn_X6_72 [5] rfl rfl rfl rfl rfl (Nat.le_of_ble_eq_true rfl) ⟨Nat.le_of_ble_eq_true rfl, Nat.le_of_ble_eq_true rfl⟩ ⟨Nat.zero_le _, Nat.zero_le _⟩ dX6_faultsIn_25 rfl ?_
  refine g_iload C 30 0 dX6_faultsIn_28 rfl rfl ?_
  refine bnd h (fun x5 e5 h => ?_)
  refine g_callSr C 33 [] [.int x5] (ct_X6_faultsFor L x3 x4 x2 x5 e5) kX6_faultsFor kvX6_faultsFor wl_X6_102 [] rfl rfl rfl rfl rfl (Nat.le_of_ble_eq_true rfl) ⟨Nat.le_of_ble_eq_true rfl, Nat.le_of_ble_eq_true rfl⟩ ⟨Nat.zero_le _, Nat.zero_le _⟩ dX6_faultsIn_30 rfl ?_
  exact g_iret (st := []) C E dX6_faultsIn_33 (by obtain rfl := Option.some.inj h; exact ⟨rfl, rfl⟩)
set_option maxHeartbeats 4000000 in
set_option maxRecDepth 100000 in
theorem ct_X6_faultsOn (L : LL) (t : Nat) (q : Nat → Nat) (T : OS) (v1 : Int32) (v2 : Int32) (v3 : Int32) (x : Int32) (h : f_X6_faultsOn T v1 v2 v3 = some x) : Ct L yX6_faultsOn cX6_faultsOn 7 (some .int) (rmk 3 0 0 68) 0 0 [.ref t, .int v1, .int v2, .int v3] (cells6 L t q T) (Pv (some (.int x)) (cells6 L t q T)) := by
  refine g_enter (lv := [(0, .ref t), (1, .int v1), (2, .int v2), (3, .int v3)]) kX6_faultsOn rfl rfl (Nat.le_of_ble_eq_true rfl) (fun Γ C E hNL => ?_)
  have J_16 : ∀ (n : Nat) (v1 : Int32) (v3 : Int32) (v4 : Int32) (v5 : Int32) (v6 : Int32), Lp2 (b_X6_faultsOn_16 T  v1 v3 v4) n v5 v6 = some x → G L Γ 0 0 (cells6 L t q T) 16 [(0, .ref t), (1, .int v1), (3, .int v3), (4, .int v4), (5, .int v5), (6, .int v6)] [] := by
    intro n v1 v3 v4
    refine lp_ok2 (fun v5 v6 => G L Γ 0 0 (cells6 L t q T) 16 [(0, .ref t), (1, .int v1), (3, .int v3), (4, .int v4), (5, .int v5), (6, .int v6)] []) (fun k_16 hk_16 => ?_) n
    have J_48 : ∀ (v5 : Int32) (v6 : Int32), j_X6_faultsOn_48 T k_16 v1 v3 v4 v5 v6 = some x → G L Γ 0 0 (cells6 L t q T) 48 [(0, .ref t), (1, .int v1), (3, .int v3), (4, .int v4), (5, .int v5), (6, .int v6)] [] := by
      intro v5 v6 h
      unfold j_X6_faultsOn_48 at h
      refine g_iinc C 51 (1 : Int32) 5 [(6, .int (v6 + (1 : Int32))), (0, .ref t), (1, .int v1), (3, .int v3), (4, .int v4), (5, .int v5)] dX6_faultsOn_48 rfl rfl 7 hNL (by decide) rfl rfl ?_
      refine g_goto C 16 dX6_faultsOn_51 (by decide) ?_
      refine g_lv (lv' := [(0, .ref t), (1, .int v1), (3, .int v3), (4, .int v4), (5, .int v5), (6, .int (v6 + (1 : Int32)))]) [1, 2, 3, 4, 5, 0] rfl ?_
      exact hk_16 _ _ h
    intro v5 v6 h
    unfold b_X6_faultsOn_16 at h
    refine g_iload C 18 5 dX6_faultsOn_16 rfl rfl ?_
    refine g_aload_n C 19 0 dX6_faultsOn_18 rfl rfl ?_
    refine g_get (v := .int (T.1 0)) C 22 6 0 0 hin_6 rfl rfl (by decide) wf_X6_9 rfl dX6_faultsOn_19 rfl ?_
    refine g_icmp_ge C 54 25 dX6_faultsOn_22 (by decide) rfl (fun c => ?_) (fun c => ?_)
    · have h := ifT c h
      refine g_iload C 56 4 dX6_faultsOn_54 rfl rfl ?_
      exact g_iret (st := []) C E dX6_faultsOn_56 (by obtain rfl := Option.some.inj h; exact ⟨rfl, rfl⟩)
    · have h := ifF c h
      refine g_iload C 27 3 dX6_faultsOn_25 rfl rfl ?_
      refine g_iload C 29 5 dX6_faultsOn_27 rfl rfl ?_
      refine bnd h (fun x2 e2 h => ?_)
      refine g_callNr C 32 [] [.int x2] (ct_X7_has L v4 v6 x2 e2) kX7_has kvX7_has wn_X6_79 [] rfl rfl rfl rfl rfl (Nat.le_of_ble_eq_true rfl) ⟨Nat.le_of_ble_eq_true rfl, Nat.le_of_ble_eq_true rfl⟩ ⟨Nat.zero_le _, Nat.zero_le _⟩ dX6_faultsOn_29 rfl ?_
      refine g_if_eq C 48 35 dX6_faultsOn_32 (by decide) rfl (fun c => ?_) (fun c => ?_)
      · have h := ifT c h
        exact J_48 _ _ h
      · have h := ifF c h
        refine g_iload C 37 4 dX6_faultsOn_35 rfl rfl ?_
        refine g_aload_n C 38 0 dX6_faultsOn_37 rfl rfl ?_
        refine g_iload_n C 39 1 dX6_faultsOn_38 rfl rfl ?_
        refine g_iload C 41 5 dX6_faultsOn_39 rfl rfl ?_
        refine g_iload_n C 42 2 dX6_faultsOn_41 rfl rfl ?_
        refine bnd h (fun x3 e3 h => ?_)
        refine g_callVr C 45 [.int v5] [.int x3, .int v5] (ct_X6_faultsIn L t q T v1 v6 v3 x3 e3) kX6_faultsIn kvX6_faultsIn wl_X6_106 6 0 rfl rfl rfl [0, 1, 2, 3, 4, 5, 6] rfl rfl rfl rfl rfl (Nat.le_of_ble_eq_true rfl) ⟨Nat.le_of_ble_eq_true rfl, Nat.le_of_ble_eq_true rfl⟩ ⟨Nat.zero_le _, Nat.zero_le _⟩ dX6_faultsOn_42 rfl ?_
        refine g_iadd C 46 dX6_faultsOn_45 rfl ?_
        refine g_istore C 48 5 [(5, .int (v5 + x3)), (0, .ref t), (1, .int v1), (3, .int v3), (4, .int v4), (6, .int v6)] dX6_faultsOn_46 rfl 7 hNL (by decide) rfl ?_
        refine g_lv (lv' := [(0, .ref t), (1, .int v1), (3, .int v3), (4, .int v4), (5, .int (v5 + x3)), (6, .int v6)]) [1, 2, 3, 4, 0, 5] rfl ?_
        exact J_48 _ _ h
  unfold f_X6_faultsOn at h
  refine g_aload_n C 1 0 dX6_faultsOn_0 rfl rfl ?_
  refine g_get (v := .ref (q 9)) C 4 6 0 9 hin_6 rfl rfl (by decide) wf_X6_40 rfl dX6_faultsOn_1 rfl ?_
  refine g_iload_n C 5 2 dX6_faultsOn_4 rfl rfl ?_
  refine bnd h (fun x1 e1 h => ?_)
  refine g_callNr C 8 [] [.int x1] (ct_X7_at L (q 9) 6 (T.2 9) v2 x1 e1) kX7_at kvX7_at wn_X6_72 [4] rfl rfl rfl rfl rfl (Nat.le_of_ble_eq_true rfl) ⟨Nat.le_of_ble_eq_true rfl, Nat.le_of_ble_eq_true rfl⟩ ⟨Nat.zero_le _, Nat.zero_le _⟩ dX6_faultsOn_5 rfl ?_
  refine g_istore C 10 4 [(4, .int x1), (0, .ref t), (1, .int v1), (2, .int v2), (3, .int v3)] dX6_faultsOn_8 rfl 7 hNL (by decide) rfl ?_
  refine g_iconst C 11 (0 : Int32) dX6_faultsOn_10 rfl rfl ?_
  refine g_istore C 13 5 [(5, .int (0 : Int32)), (4, .int x1), (0, .ref t), (1, .int v1), (2, .int v2), (3, .int v3)] dX6_faultsOn_11 rfl 7 hNL (by decide) rfl ?_
  refine g_iconst C 14 (0 : Int32) dX6_faultsOn_13 rfl rfl ?_
  refine g_istore C 16 6 [(6, .int (0 : Int32)), (5, .int (0 : Int32)), (4, .int x1), (0, .ref t), (1, .int v1), (2, .int v2), (3, .int v3)] dX6_faultsOn_14 rfl 7 hNL (by decide) rfl ?_
  refine g_lv (lv' := [(0, .ref t), (1, .int v1), (3, .int v3), (4, .int x1), (5, .int (0 : Int32)), (6, .int (0 : Int32))]) [3, 4, 6, 2, 1, 0] rfl ?_
  exact J_16 _ _ _ _ _ _ h
set_option maxHeartbeats 4000000 in
set_option maxRecDepth 100000 in
theorem ct_X6_waysPassed (L : LL) (t : Nat) (q : Nat → Nat) (T : OS) (v1 : Int32) (v2 : Int32) (v3 : Int32) (x : Int32) (h : f_X6_waysPassed T v1 v2 v3 = some x) : Ct L yX6_waysPassed cX6_waysPassed 6 (some .int) (rmk 3 0 0 72) 0 0 [.ref t, .int v1, .int v2, .int v3] (cells6 L t q T) (Pv (some (.int x)) (cells6 L t q T)) := by
  refine g_enter (lv := [(0, .ref t), (1, .int v1), (2, .int v2), (3, .int v3)]) kX6_waysPassed rfl rfl (Nat.le_of_ble_eq_true rfl) (fun Γ C E hNL => ?_)
  have J_6 : ∀ (n : Nat) (v1 : Int32) (v2 : Int32) (v3 : Int32) (v4 : Int32) (v5 : Int32), Lp2 (b_X6_waysPassed_6 T  v1 v2 v3) n v4 v5 = some x → G L Γ 0 0 (cells6 L t q T) 6 [(0, .ref t), (1, .int v1), (2, .int v2), (3, .int v3), (4, .int v4), (5, .int v5)] [] := by
    intro n v1 v2 v3
    refine lp_ok2 (fun v4 v5 => G L Γ 0 0 (cells6 L t q T) 6 [(0, .ref t), (1, .int v1), (2, .int v2), (3, .int v3), (4, .int v4), (5, .int v5)] []) (fun k_6 hk_6 => ?_) n
    have J_40 : ∀ (v4 : Int32) (v5 : Int32), j_X6_waysPassed_40 T k_6 v1 v2 v3 v4 v5 = some x → G L Γ 0 0 (cells6 L t q T) 40 [(0, .ref t), (1, .int v1), (2, .int v2), (3, .int v3), (4, .int v4), (5, .int v5)] [] := by
      intro v4 v5 h
      unfold j_X6_waysPassed_40 at h
      refine g_iinc C 43 (1 : Int32) 5 [(5, .int (v5 + (1 : Int32))), (0, .ref t), (1, .int v1), (2, .int v2), (3, .int v3), (4, .int v4)] dX6_waysPassed_40 rfl rfl 6 hNL (by decide) rfl rfl ?_
      refine g_goto C 6 dX6_waysPassed_43 (by decide) ?_
      refine g_lv (lv' := [(0, .ref t), (1, .int v1), (2, .int v2), (3, .int v3), (4, .int v4), (5, .int (v5 + (1 : Int32)))]) [1, 2, 3, 4, 5, 0] rfl ?_
      exact hk_6 _ _ h
    intro v4 v5 h
    unfold b_X6_waysPassed_6 at h
    refine g_iload C 8 5 dX6_waysPassed_6 rfl rfl ?_
    refine g_aload_n C 9 0 dX6_waysPassed_8 rfl rfl ?_
    refine g_get (v := .int (T.1 1)) C 12 6 0 1 hin_6 rfl rfl (by decide) wf_X6_15 rfl dX6_waysPassed_9 rfl ?_
    refine g_icmp_ge C 46 15 dX6_waysPassed_12 (by decide) rfl (fun c => ?_) (fun c => ?_)
    · have h := ifT c h
      refine g_iload C 48 4 dX6_waysPassed_46 rfl rfl ?_
      exact g_iret (st := []) C E dX6_waysPassed_48 (by obtain rfl := Option.some.inj h; exact ⟨rfl, rfl⟩)
    · have h := ifF c h
      refine g_aload_n C 16 0 dX6_waysPassed_15 rfl rfl ?_
      refine g_iload C 18 5 dX6_waysPassed_16 rfl rfl ?_
      refine g_iload_n C 19 1 dX6_waysPassed_18 rfl rfl ?_
      refine g_iload_n C 20 2 dX6_waysPassed_19 rfl rfl ?_
      refine g_iload_n C 21 3 dX6_waysPassed_20 rfl rfl ?_
      refine bnd h (fun x1 e1 h => ?_)
      refine g_callVr C 24 [] [.int x1] (ct_X6_limitToPass L t q T v5 v1 v2 v3 x1 e1) kX6_limitToPass kvX6_limitToPass wl_X6_110 6 0 rfl rfl rfl [0, 1, 2, 3, 4, 5, 6] rfl rfl rfl rfl rfl (Nat.le_of_ble_eq_true rfl) ⟨Nat.le_of_ble_eq_true rfl, Nat.le_of_ble_eq_true rfl⟩ ⟨Nat.zero_le _, Nat.zero_le _⟩ dX6_waysPassed_21 rfl ?_
      refine g_aload_n C 25 0 dX6_waysPassed_24 rfl rfl ?_
      refine g_get (v := .int (T.1 4)) C 28 6 0 4 hin_6 rfl rfl (by decide) wf_X6_24 rfl dX6_waysPassed_25 rfl ?_
      refine g_icmp_gt C 40 31 dX6_waysPassed_28 (by decide) rfl (fun c => ?_) (fun c => ?_)
      · have h := ifT c h
        exact J_40 _ _ h
      · have h := ifF c h
        refine g_iload C 33 4 dX6_waysPassed_31 rfl rfl ?_
        refine g_iconst C 34 (1 : Int32) dX6_waysPassed_33 rfl rfl ?_
        refine g_iload C 36 5 dX6_waysPassed_34 rfl rfl ?_
        refine g_ishl C 37 dX6_waysPassed_36 rfl ?_
        refine g_ior C 38 dX6_waysPassed_37 rfl ?_
        refine g_istore C 40 4 [(4, .int (v4 ||| ((1 : Int32) <<< (v5 &&& 31)))), (0, .ref t), (1, .int v1), (2, .int v2), (3, .int v3), (5, .int v5)] dX6_waysPassed_38 rfl 6 hNL (by decide) rfl ?_
        refine g_lv (lv' := [(0, .ref t), (1, .int v1), (2, .int v2), (3, .int v3), (4, .int (v4 ||| ((1 : Int32) <<< (v5 &&& 31)))), (5, .int v5)]) [1, 2, 3, 4, 0, 5] rfl ?_
        exact J_40 _ _ h
  unfold f_X6_waysPassed at h
  refine g_iconst C 1 (0 : Int32) dX6_waysPassed_0 rfl rfl ?_
  refine g_istore C 3 4 [(4, .int (0 : Int32)), (0, .ref t), (1, .int v1), (2, .int v2), (3, .int v3)] dX6_waysPassed_1 rfl 6 hNL (by decide) rfl ?_
  refine g_iconst C 4 (0 : Int32) dX6_waysPassed_3 rfl rfl ?_
  refine g_istore C 6 5 [(5, .int (0 : Int32)), (4, .int (0 : Int32)), (0, .ref t), (1, .int v1), (2, .int v2), (3, .int v3)] dX6_waysPassed_4 rfl 6 hNL (by decide) rfl ?_
  refine g_lv (lv' := [(0, .ref t), (1, .int v1), (2, .int v2), (3, .int v3), (4, .int (0 : Int32)), (5, .int (0 : Int32))]) [2, 3, 4, 5, 1, 0] rfl ?_
  exact J_6 _ _ _ _ _ _ h
set_option maxHeartbeats 4000000 in
set_option maxRecDepth 100000 in
theorem ct_X6_ballOf (L : LL) (t : Nat) (q : Nat → Nat) (T : OS) (v1 : Int32) (x : Int32) (h : f_X6_ballOf T v1 = some x) : Ct L yX6_ballOf cX6_ballOf 2 (some .int) (rmk 1 0 0 21) 0 0 [.ref t, .int v1] (cells6 L t q T) (Pv (some (.int x)) (cells6 L t q T)) := by
  refine g_enter (lv := [(0, .ref t), (1, .int v1)]) kX6_ballOf rfl rfl (Nat.le_of_ble_eq_true rfl) (fun Γ C E hNL => ?_)
  unfold f_X6_ballOf at h
  refine g_aload_n C 1 0 dX6_ballOf_0 rfl rfl ?_
  refine g_get (v := .ref (q 6)) C 4 6 0 6 hin_6 rfl rfl (by decide) wf_X6_30 rfl dX6_ballOf_1 rfl ?_
  refine g_iload_n C 5 1 dX6_ballOf_4 rfl rfl ?_
  refine bnd h (fun x1 e1 h => ?_)
  refine g_callNr C 8 [] [.int x1] (ct_X7_at L (q 6) 8 (T.2 6) v1 x1 e1) kX7_at kvX7_at wn_X6_72 [1] rfl rfl rfl rfl rfl (Nat.le_of_ble_eq_true rfl) ⟨Nat.le_of_ble_eq_true rfl, Nat.le_of_ble_eq_true rfl⟩ ⟨Nat.zero_le _, Nat.zero_le _⟩ dX6_ballOf_5 rfl ?_
  by_cases c2 : x1 = (2 : Int32)
  · have h := ifT c2 h
    refine g_tabIn C 40 (32) dX6_ballOf_8 (by rw [c2]; decide) (by rw [c2]; decide) (by rw [c2]; rfl) (by decide) ?_
    refine g_iconst C 41 (3 : Int32) dX6_ballOf_40 rfl rfl ?_
    exact g_iret (st := []) C E dX6_ballOf_41 (by obtain rfl := Option.some.inj h; exact ⟨rfl, rfl⟩)
  have h := ifF c2 h
  by_cases c3 : x1 = (3 : Int32)
  · have h := ifT c3 h
    refine g_tabIn C 42 (34) dX6_ballOf_8 (by rw [c3]; decide) (by rw [c3]; decide) (by rw [c3]; rfl) (by decide) ?_
    refine g_iconst C 43 (4 : Int32) dX6_ballOf_42 rfl rfl ?_
    exact g_iret (st := []) C E dX6_ballOf_43 (by obtain rfl := Option.some.inj h; exact ⟨rfl, rfl⟩)
  have h := ifF c3 h
  by_cases c4 : x1 = (4 : Int32)
  · have h := ifT c4 h
    refine g_tabIn C 44 (36) dX6_ballOf_8 (by rw [c4]; decide) (by rw [c4]; decide) (by rw [c4]; rfl) (by decide) ?_
    refine g_iconst C 45 (0 : Int32) dX6_ballOf_44 rfl rfl ?_
    exact g_iret (st := []) C E dX6_ballOf_45 (by obtain rfl := Option.some.inj h; exact ⟨rfl, rfl⟩)
  have h := ifF c4 h
  by_cases c5 : x1 = (5 : Int32)
  · have h := ifT c5 h
    refine g_tabIn C 46 (38) dX6_ballOf_8 (by rw [c5]; decide) (by rw [c5]; decide) (by rw [c5]; rfl) (by decide) ?_
    refine g_iconst C 47 (3 : Int32) dX6_ballOf_46 rfl rfl ?_
    exact g_iret (st := []) C E dX6_ballOf_47 (by obtain rfl := Option.some.inj h; exact ⟨rfl, rfl⟩)
  have h := ifF c5 h
  have t2 := ne_toInt c2 (show ((2 : Int32) : Int32).toInt = 2 by decide +kernel)
  have t3 := ne_toInt c3 (show ((3 : Int32) : Int32).toInt = 3 by decide +kernel)
  have t4 := ne_toInt c4 (show ((4 : Int32) : Int32).toInt = 4 by decide +kernel)
  have t5 := ne_toInt c5 (show ((5 : Int32) : Int32).toInt = 5 by decide +kernel)
  by_cases cr : (x1).toInt < 2 ∨ 5 < (x1).toInt
  · refine g_tabOut C 48 dX6_ballOf_8 cr (by decide) ?_
    refine g_iconst C 49 (1 : Int32) dX6_ballOf_48 rfl rfl ?_
    exact g_iret (st := []) C E dX6_ballOf_49 (by obtain rfl := Option.some.inj h; exact ⟨rfl, rfl⟩)
  · exfalso; omega
set_option maxHeartbeats 4000000 in
set_option maxRecDepth 100000 in
theorem ct_X6_kindsOn (L : LL) (t : Nat) (q : Nat → Nat) (T : OS) (v1 : Int32) (x : Int32) (h : f_X6_kindsOn T v1 = some x) : Ct L yX6_kindsOn cX6_kindsOn 4 (some .int) (rmk 1 0 0 21) 0 0 [.ref t, .int v1] (cells6 L t q T) (Pv (some (.int x)) (cells6 L t q T)) := by
  refine g_enter (lv := [(0, .ref t), (1, .int v1)]) kX6_kindsOn rfl rfl (Nat.le_of_ble_eq_true rfl) (fun Γ C E hNL => ?_)
  have J_4 : ∀ (n : Nat) (v1 : Int32) (v2 : Int32) (v3 : Int32), Lp2 (b_X6_kindsOn_4 T  v1) n v2 v3 = some x → G L Γ 0 0 (cells6 L t q T) 4 [(0, .ref t), (1, .int v1), (2, .int v2), (3, .int v3)] [] := by
    intro n v1
    refine lp_ok2 (fun v2 v3 => G L Γ 0 0 (cells6 L t q T) 4 [(0, .ref t), (1, .int v1), (2, .int v2), (3, .int v3)] []) (fun k_4 hk_4 => ?_) n
    have J_33 : ∀ (v2 : Int32) (v3 : Int32), j_X6_kindsOn_33 T k_4 v1 v2 v3 = some x → G L Γ 0 0 (cells6 L t q T) 33 [(0, .ref t), (1, .int v1), (2, .int v2), (3, .int v3)] [] := by
      intro v2 v3 h
      unfold j_X6_kindsOn_33 at h
      refine g_iinc C 36 (1 : Int32) 3 [(3, .int (v3 + (1 : Int32))), (0, .ref t), (1, .int v1), (2, .int v2)] dX6_kindsOn_33 rfl rfl 4 hNL (by decide) rfl rfl ?_
      refine g_goto C 4 dX6_kindsOn_36 (by decide) ?_
      refine g_lv (lv' := [(0, .ref t), (1, .int v1), (2, .int v2), (3, .int (v3 + (1 : Int32)))]) [1, 2, 3, 0] rfl ?_
      exact hk_4 _ _ h
    intro v2 v3 h
    unfold b_X6_kindsOn_4 at h
    refine g_iload_n C 5 3 dX6_kindsOn_4 rfl rfl ?_
    refine g_aload_n C 6 0 dX6_kindsOn_5 rfl rfl ?_
    refine g_get (v := .int (T.1 0)) C 9 6 0 0 hin_6 rfl rfl (by decide) wf_X6_9 rfl dX6_kindsOn_6 rfl ?_
    refine g_icmp_ge C 39 12 dX6_kindsOn_9 (by decide) rfl (fun c => ?_) (fun c => ?_)
    · have h := ifT c h
      refine g_iload_n C 40 2 dX6_kindsOn_39 rfl rfl ?_
      exact g_iret (st := []) C E dX6_kindsOn_40 (by obtain rfl := Option.some.inj h; exact ⟨rfl, rfl⟩)
    · have h := ifF c h
      refine g_iload_n C 13 1 dX6_kindsOn_12 rfl rfl ?_
      refine g_iload_n C 14 3 dX6_kindsOn_13 rfl rfl ?_
      refine bnd h (fun x1 e1 h => ?_)
      refine g_callNr C 17 [] [.int x1] (ct_X7_has L v1 v3 x1 e1) kX7_has kvX7_has wn_X6_79 [] rfl rfl rfl rfl rfl (Nat.le_of_ble_eq_true rfl) ⟨Nat.le_of_ble_eq_true rfl, Nat.le_of_ble_eq_true rfl⟩ ⟨Nat.zero_le _, Nat.zero_le _⟩ dX6_kindsOn_14 rfl ?_
      refine g_if_eq C 33 20 dX6_kindsOn_17 (by decide) rfl (fun c => ?_) (fun c => ?_)
      · have h := ifT c h
        exact J_33 _ _ h
      · have h := ifF c h
        refine g_iload_n C 21 2 dX6_kindsOn_20 rfl rfl ?_
        refine g_iconst C 22 (1 : Int32) dX6_kindsOn_21 rfl rfl ?_
        refine g_aload_n C 23 0 dX6_kindsOn_22 rfl rfl ?_
        refine g_get (v := .ref (q 6)) C 26 6 0 6 hin_6 rfl rfl (by decide) wf_X6_30 rfl dX6_kindsOn_23 rfl ?_
        refine g_iload_n C 27 3 dX6_kindsOn_26 rfl rfl ?_
        refine bnd h (fun x2 e2 h => ?_)
        refine g_callNr C 30 [.int (1 : Int32), .int v2] [.int x2, .int (1 : Int32), .int v2] (ct_X7_at L (q 6) 8 (T.2 6) v3 x2 e2) kX7_at kvX7_at wn_X6_72 [1] rfl rfl rfl rfl rfl (Nat.le_of_ble_eq_true rfl) ⟨Nat.le_of_ble_eq_true rfl, Nat.le_of_ble_eq_true rfl⟩ ⟨Nat.zero_le _, Nat.zero_le _⟩ dX6_kindsOn_27 rfl ?_
        refine g_ishl C 31 dX6_kindsOn_30 rfl ?_
        refine g_ior C 32 dX6_kindsOn_31 rfl ?_
        refine g_istore_n C 33 2 [(2, .int (v2 ||| ((1 : Int32) <<< (x2 &&& 31)))), (0, .ref t), (1, .int v1), (3, .int v3)] dX6_kindsOn_32 rfl rfl 4 hNL (by decide) rfl ?_
        refine g_lv (lv' := [(0, .ref t), (1, .int v1), (2, .int (v2 ||| ((1 : Int32) <<< (x2 &&& 31)))), (3, .int v3)]) [1, 2, 0, 3] rfl ?_
        exact J_33 _ _ h
  unfold f_X6_kindsOn at h
  refine g_iconst C 1 (0 : Int32) dX6_kindsOn_0 rfl rfl ?_
  refine g_istore_n C 2 2 [(2, .int (0 : Int32)), (0, .ref t), (1, .int v1)] dX6_kindsOn_1 rfl rfl 4 hNL (by decide) rfl ?_
  refine g_iconst C 3 (0 : Int32) dX6_kindsOn_2 rfl rfl ?_
  refine g_istore_n C 4 3 [(3, .int (0 : Int32)), (2, .int (0 : Int32)), (0, .ref t), (1, .int v1)] dX6_kindsOn_3 rfl rfl 4 hNL (by decide) rfl ?_
  refine g_lv (lv' := [(0, .ref t), (1, .int v1), (2, .int (0 : Int32)), (3, .int (0 : Int32))]) [2, 3, 1, 0] rfl ?_
  exact J_4 _ _ _ _ h
set_option maxHeartbeats 4000000 in
set_option maxRecDepth 100000 in
theorem ct_X6_hardOn (L : LL) (t : Nat) (q : Nat → Nat) (T : OS) (v1 : Int32) (v2 : Int32) (x : Int32) (h : f_X6_hardOn T v1 v2 = some x) : Ct L yX6_hardOn cX6_hardOn 5 (some .int) (rmk 2 0 0 44) 0 0 [.ref t, .int v1, .int v2] (cells6 L t q T) (Pv (some (.int x)) (cells6 L t q T)) := by
  refine g_enter (lv := [(0, .ref t), (1, .int v1), (2, .int v2)]) kX6_hardOn rfl rfl (Nat.le_of_ble_eq_true rfl) (fun Γ C E hNL => ?_)
  have J_5 : ∀ (n : Nat) (v1 : Int32) (v2 : Int32) (v3 : Int32) (v4 : Int32), Lp2 (b_X6_hardOn_5 T  v1 v2) n v3 v4 = some x → G L Γ 0 0 (cells6 L t q T) 5 [(0, .ref t), (1, .int v1), (2, .int v2), (3, .int v3), (4, .int v4)] [] := by
    intro n v1 v2
    refine lp_ok2 (fun v3 v4 => G L Γ 0 0 (cells6 L t q T) 5 [(0, .ref t), (1, .int v1), (2, .int v2), (3, .int v3), (4, .int v4)] []) (fun k_5 hk_5 => ?_) n
    have J_33 : ∀ (v3 : Int32) (v4 : Int32), j_X6_hardOn_33 T k_5 v1 v2 v3 v4 = some x → G L Γ 0 0 (cells6 L t q T) 33 [(0, .ref t), (1, .int v1), (2, .int v2), (3, .int v3), (4, .int v4)] [] := by
      intro v3 v4 h
      unfold j_X6_hardOn_33 at h
      refine g_iinc C 36 (1 : Int32) 4 [(4, .int (v4 + (1 : Int32))), (0, .ref t), (1, .int v1), (2, .int v2), (3, .int v3)] dX6_hardOn_33 rfl rfl 5 hNL (by decide) rfl rfl ?_
      refine g_goto C 5 dX6_hardOn_36 (by decide) ?_
      refine g_lv (lv' := [(0, .ref t), (1, .int v1), (2, .int v2), (3, .int v3), (4, .int (v4 + (1 : Int32)))]) [1, 2, 3, 4, 0] rfl ?_
      exact hk_5 _ _ h
    intro v3 v4 h
    unfold b_X6_hardOn_5 at h
    refine g_iload C 7 4 dX6_hardOn_5 rfl rfl ?_
    refine g_aload_n C 8 0 dX6_hardOn_7 rfl rfl ?_
    refine g_get (v := .int (T.1 0)) C 11 6 0 0 hin_6 rfl rfl (by decide) wf_X6_9 rfl dX6_hardOn_8 rfl ?_
    refine g_icmp_ge C 39 14 dX6_hardOn_11 (by decide) rfl (fun c => ?_) (fun c => ?_)
    · have h := ifT c h
      refine g_iload_n C 40 3 dX6_hardOn_39 rfl rfl ?_
      exact g_iret (st := []) C E dX6_hardOn_40 (by obtain rfl := Option.some.inj h; exact ⟨rfl, rfl⟩)
    · have h := ifF c h
      refine g_iload_n C 15 1 dX6_hardOn_14 rfl rfl ?_
      refine g_iload C 17 4 dX6_hardOn_15 rfl rfl ?_
      refine bnd h (fun x1 e1 h => ?_)
      refine g_callNr C 20 [] [.int x1] (ct_X7_has L v1 v4 x1 e1) kX7_has kvX7_has wn_X6_79 [] rfl rfl rfl rfl rfl (Nat.le_of_ble_eq_true rfl) ⟨Nat.le_of_ble_eq_true rfl, Nat.le_of_ble_eq_true rfl⟩ ⟨Nat.zero_le _, Nat.zero_le _⟩ dX6_hardOn_17 rfl ?_
      refine g_if_eq C 33 23 dX6_hardOn_20 (by decide) rfl (fun c => ?_) (fun c => ?_)
      · have h := ifT c h
        exact J_33 _ _ h
      · have h := ifF c h
        refine g_iload_n C 24 3 dX6_hardOn_23 rfl rfl ?_
        refine g_aload_n C 25 0 dX6_hardOn_24 rfl rfl ?_
        refine g_iload C 27 4 dX6_hardOn_25 rfl rfl ?_
        refine g_iload_n C 28 2 dX6_hardOn_27 rfl rfl ?_
        refine bnd h (fun x2 e2 h => ?_)
        refine g_callVr C 31 [.int v3] [.int x2, .int v3] (ct_X6_hardOf L t q T v4 v2 x2 e2) kX6_hardOf kvX6_hardOf wl_X6_93 6 0 rfl rfl rfl [0, 1, 2, 3, 4, 5, 6] rfl rfl rfl rfl rfl (Nat.le_of_ble_eq_true rfl) ⟨Nat.le_of_ble_eq_true rfl, Nat.le_of_ble_eq_true rfl⟩ ⟨Nat.zero_le _, Nat.zero_le _⟩ dX6_hardOn_28 rfl ?_
        refine g_iadd C 32 dX6_hardOn_31 rfl ?_
        refine g_istore_n C 33 3 [(3, .int (v3 + x2)), (0, .ref t), (1, .int v1), (2, .int v2), (4, .int v4)] dX6_hardOn_32 rfl rfl 5 hNL (by decide) rfl ?_
        refine g_lv (lv' := [(0, .ref t), (1, .int v1), (2, .int v2), (3, .int (v3 + x2)), (4, .int v4)]) [1, 2, 3, 0, 4] rfl ?_
        exact J_33 _ _ h
  unfold f_X6_hardOn at h
  refine g_iconst C 1 (0 : Int32) dX6_hardOn_0 rfl rfl ?_
  refine g_istore_n C 2 3 [(3, .int (0 : Int32)), (0, .ref t), (1, .int v1), (2, .int v2)] dX6_hardOn_1 rfl rfl 5 hNL (by decide) rfl ?_
  refine g_iconst C 3 (0 : Int32) dX6_hardOn_2 rfl rfl ?_
  refine g_istore C 5 4 [(4, .int (0 : Int32)), (3, .int (0 : Int32)), (0, .ref t), (1, .int v1), (2, .int v2)] dX6_hardOn_3 rfl 5 hNL (by decide) rfl ?_
  refine g_lv (lv' := [(0, .ref t), (1, .int v1), (2, .int v2), (3, .int (0 : Int32)), (4, .int (0 : Int32))]) [2, 3, 4, 1, 0] rfl ?_
  exact J_5 _ _ _ _ _ h
set_option maxHeartbeats 4000000 in
set_option maxRecDepth 100000 in
theorem ct_X6_allWays (L : LL) (t : Nat) (q : Nat → Nat) (T : OS) (x : Int32) (h : f_X6_allWays T = some x) : Ct L yX6_allWays cX6_allWays 1 (some .int) (rmk 0 0 0 0) 0 0 [.ref t] (cells6 L t q T) (Pv (some (.int x)) (cells6 L t q T)) := by
  refine g_enter (lv := [(0, .ref t)]) kX6_allWays rfl rfl (Nat.le_of_ble_eq_true rfl) (fun Γ C E hNL => ?_)
  unfold f_X6_allWays at h
  refine g_iconst C 1 (1 : Int32) dX6_allWays_0 rfl rfl ?_
  refine g_aload_n C 2 0 dX6_allWays_1 rfl rfl ?_
  refine g_get (v := .int (T.1 1)) C 5 6 0 1 hin_6 rfl rfl (by decide) wf_X6_15 rfl dX6_allWays_2 rfl ?_
  refine g_ishl C 6 dX6_allWays_5 rfl ?_
  refine g_iconst C 7 (1 : Int32) dX6_allWays_6 rfl rfl ?_
  refine g_isub C 8 dX6_allWays_7 rfl ?_
  exact g_iret (st := []) C E dX6_allWays_8 (by obtain rfl := Option.some.inj h; exact ⟨rfl, rfl⟩)
set_option maxHeartbeats 4000000 in
set_option maxRecDepth 100000 in
theorem ct_X6_minutesOn (L : LL) (t : Nat) (q : Nat → Nat) (T : OS) (v1 : Int32) (x : Int32) (h : f_X6_minutesOn T v1 = some x) : Ct L yX6_minutesOn cX6_minutesOn 4 (some .int) (rmk 1 0 0 21) 0 0 [.ref t, .int v1] (cells6 L t q T) (Pv (some (.int x)) (cells6 L t q T)) := by
  refine g_enter (lv := [(0, .ref t), (1, .int v1)]) kX6_minutesOn rfl rfl (Nat.le_of_ble_eq_true rfl) (fun Γ C E hNL => ?_)
  have J_4 : ∀ (n : Nat) (v1 : Int32) (v2 : Int32) (v3 : Int32), Lp2 (b_X6_minutesOn_4 T  v1) n v2 v3 = some x → G L Γ 0 0 (cells6 L t q T) 4 [(0, .ref t), (1, .int v1), (2, .int v2), (3, .int v3)] [] := by
    intro n v1
    refine lp_ok2 (fun v2 v3 => G L Γ 0 0 (cells6 L t q T) 4 [(0, .ref t), (1, .int v1), (2, .int v2), (3, .int v3)] []) (fun k_4 hk_4 => ?_) n
    have J_31 : ∀ (v2 : Int32) (v3 : Int32), j_X6_minutesOn_31 T k_4 v1 v2 v3 = some x → G L Γ 0 0 (cells6 L t q T) 31 [(0, .ref t), (1, .int v1), (2, .int v2), (3, .int v3)] [] := by
      intro v2 v3 h
      unfold j_X6_minutesOn_31 at h
      refine g_iinc C 34 (1 : Int32) 3 [(3, .int (v3 + (1 : Int32))), (0, .ref t), (1, .int v1), (2, .int v2)] dX6_minutesOn_31 rfl rfl 4 hNL (by decide) rfl rfl ?_
      refine g_goto C 4 dX6_minutesOn_34 (by decide) ?_
      refine g_lv (lv' := [(0, .ref t), (1, .int v1), (2, .int v2), (3, .int (v3 + (1 : Int32)))]) [1, 2, 3, 0] rfl ?_
      exact hk_4 _ _ h
    intro v2 v3 h
    unfold b_X6_minutesOn_4 at h
    refine g_iload_n C 5 3 dX6_minutesOn_4 rfl rfl ?_
    refine g_aload_n C 6 0 dX6_minutesOn_5 rfl rfl ?_
    refine g_get (v := .int (T.1 0)) C 9 6 0 0 hin_6 rfl rfl (by decide) wf_X6_9 rfl dX6_minutesOn_6 rfl ?_
    refine g_icmp_ge C 37 12 dX6_minutesOn_9 (by decide) rfl (fun c => ?_) (fun c => ?_)
    · have h := ifT c h
      refine g_iload_n C 38 2 dX6_minutesOn_37 rfl rfl ?_
      exact g_iret (st := []) C E dX6_minutesOn_38 (by obtain rfl := Option.some.inj h; exact ⟨rfl, rfl⟩)
    · have h := ifF c h
      refine g_iload_n C 13 1 dX6_minutesOn_12 rfl rfl ?_
      refine g_iload_n C 14 3 dX6_minutesOn_13 rfl rfl ?_
      refine bnd h (fun x1 e1 h => ?_)
      refine g_callNr C 17 [] [.int x1] (ct_X7_has L v1 v3 x1 e1) kX7_has kvX7_has wn_X6_79 [] rfl rfl rfl rfl rfl (Nat.le_of_ble_eq_true rfl) ⟨Nat.le_of_ble_eq_true rfl, Nat.le_of_ble_eq_true rfl⟩ ⟨Nat.zero_le _, Nat.zero_le _⟩ dX6_minutesOn_14 rfl ?_
      refine g_if_eq C 31 20 dX6_minutesOn_17 (by decide) rfl (fun c => ?_) (fun c => ?_)
      · have h := ifT c h
        exact J_31 _ _ h
      · have h := ifF c h
        refine g_iload_n C 21 2 dX6_minutesOn_20 rfl rfl ?_
        refine g_aload_n C 22 0 dX6_minutesOn_21 rfl rfl ?_
        refine g_get (v := .ref (q 8)) C 25 6 0 8 hin_6 rfl rfl (by decide) wf_X6_37 rfl dX6_minutesOn_22 rfl ?_
        refine g_iload_n C 26 3 dX6_minutesOn_25 rfl rfl ?_
        refine bnd h (fun x2 e2 h => ?_)
        refine g_callNr C 29 [.int v2] [.int x2, .int v2] (ct_X7_at L (q 8) 8 (T.2 8) v3 x2 e2) kX7_at kvX7_at wn_X6_72 [3] rfl rfl rfl rfl rfl (Nat.le_of_ble_eq_true rfl) ⟨Nat.le_of_ble_eq_true rfl, Nat.le_of_ble_eq_true rfl⟩ ⟨Nat.zero_le _, Nat.zero_le _⟩ dX6_minutesOn_26 rfl ?_
        refine g_iadd C 30 dX6_minutesOn_29 rfl ?_
        refine g_istore_n C 31 2 [(2, .int (v2 + x2)), (0, .ref t), (1, .int v1), (3, .int v3)] dX6_minutesOn_30 rfl rfl 4 hNL (by decide) rfl ?_
        refine g_lv (lv' := [(0, .ref t), (1, .int v1), (2, .int (v2 + x2)), (3, .int v3)]) [1, 2, 0, 3] rfl ?_
        exact J_31 _ _ h
  unfold f_X6_minutesOn at h
  refine g_iconst C 1 (0 : Int32) dX6_minutesOn_0 rfl rfl ?_
  refine g_istore_n C 2 2 [(2, .int (0 : Int32)), (0, .ref t), (1, .int v1)] dX6_minutesOn_1 rfl rfl 4 hNL (by decide) rfl ?_
  refine g_iconst C 3 (0 : Int32) dX6_minutesOn_2 rfl rfl ?_
  refine g_istore_n C 4 3 [(3, .int (0 : Int32)), (2, .int (0 : Int32)), (0, .ref t), (1, .int v1)] dX6_minutesOn_3 rfl rfl 4 hNL (by decide) rfl ?_
  refine g_lv (lv' := [(0, .ref t), (1, .int v1), (2, .int (0 : Int32)), (3, .int (0 : Int32))]) [2, 3, 1, 0] rfl ?_
  exact J_4 _ _ _ _ h
set_option maxHeartbeats 4000000 in
set_option maxRecDepth 100000 in
theorem ct_X6_copyFrom (L : LL) (t : Nat) (q : Nat → Nat) (t2 : Nat) (q2 : Nat → Nat) (T : OS) (T2 : OS) (x : OS) (h : f_X6_copyFrom T T2 = some x) : Ct L yX6_copyFrom cX6_copyFrom 2 none (rmk 2 0 0 45) 0 0 [.ref t, .ref t2] (cells66 L t q t2 q2 T T2) (Pv none (cells66 L t q t2 q2 x T2)) := by
  refine g_enter (lv := [(0, .ref t), (1, .ref t2)]) kX6_copyFrom rfl rfl (Nat.le_of_ble_eq_true rfl) (fun Γ C E hNL => ?_)
  unfold f_X6_copyFrom at h
  refine g_aload_n C 1 0 dX6_copyFrom_0 rfl rfl ?_
  refine g_aload_n C 2 1 dX6_copyFrom_1 rfl rfl ?_
  refine g_get (v := .int (T2.1 0)) C 5 6 7 0 hin_6 rfl rfl (by decide) wf_X6_9 rfl dX6_copyFrom_2 rfl ?_
  refine g_put (w' := (cells66 L t q t2 q2 (su T 0 (T2.1 0)) T2)) C 8 6 0 0 hin_6 tyX6 tyX6_ok nmX6 rfl rfl (by decide) wf_X6_9 rfl rfl rfl (Nat.le_of_ble_eq_true rfl) dX6_copyFrom_5 rfl rfl ?_
  refine g_aload_n C 9 0 dX6_copyFrom_8 rfl rfl ?_
  refine g_aload_n C 10 1 dX6_copyFrom_9 rfl rfl ?_
  refine g_get (v := .int (T2.1 1)) C 13 6 7 1 hin_6 rfl rfl (by decide) wf_X6_15 rfl dX6_copyFrom_10 rfl ?_
  refine g_put (w' := (cells66 L t q t2 q2 (su (su T 0 (T2.1 0)) 1 (T2.1 1)) T2)) C 16 6 0 1 hin_6 tyX6 tyX6_ok nmX6 rfl rfl (by decide) wf_X6_15 rfl rfl rfl (Nat.le_of_ble_eq_true rfl) dX6_copyFrom_13 rfl rfl ?_
  refine g_aload_n C 17 0 dX6_copyFrom_16 rfl rfl ?_
  refine g_aload_n C 18 1 dX6_copyFrom_17 rfl rfl ?_
  refine g_get (v := .int (T2.1 2)) C 21 6 7 2 hin_6 rfl rfl (by decide) wf_X6_18 rfl dX6_copyFrom_18 rfl ?_
  refine g_put (w' := (cells66 L t q t2 q2 (su (su (su T 0 (T2.1 0)) 1 (T2.1 1)) 2 (T2.1 2)) T2)) C 24 6 0 2 hin_6 tyX6 tyX6_ok nmX6 rfl rfl (by decide) wf_X6_18 rfl rfl rfl (Nat.le_of_ble_eq_true rfl) dX6_copyFrom_21 rfl rfl ?_
  refine g_aload_n C 25 0 dX6_copyFrom_24 rfl rfl ?_
  refine g_aload_n C 26 1 dX6_copyFrom_25 rfl rfl ?_
  refine g_get (v := .int (T2.1 3)) C 29 6 7 3 hin_6 rfl rfl (by decide) wf_X6_21 rfl dX6_copyFrom_26 rfl ?_
  refine g_put (w' := (cells66 L t q t2 q2 (su (su (su (su T 0 (T2.1 0)) 1 (T2.1 1)) 2 (T2.1 2)) 3 (T2.1 3)) T2)) C 32 6 0 3 hin_6 tyX6 tyX6_ok nmX6 rfl rfl (by decide) wf_X6_21 rfl rfl rfl (Nat.le_of_ble_eq_true rfl) dX6_copyFrom_29 rfl rfl ?_
  refine g_aload_n C 33 0 dX6_copyFrom_32 rfl rfl ?_
  refine g_aload_n C 34 1 dX6_copyFrom_33 rfl rfl ?_
  refine g_get (v := .int (T2.1 4)) C 37 6 7 4 hin_6 rfl rfl (by decide) wf_X6_24 rfl dX6_copyFrom_34 rfl ?_
  refine g_put (w' := (cells66 L t q t2 q2 (su (su (su (su (su T 0 (T2.1 0)) 1 (T2.1 1)) 2 (T2.1 2)) 3 (T2.1 3)) 4 (T2.1 4)) T2)) C 40 6 0 4 hin_6 tyX6 tyX6_ok nmX6 rfl rfl (by decide) wf_X6_24 rfl rfl rfl (Nat.le_of_ble_eq_true rfl) dX6_copyFrom_37 rfl rfl ?_
  refine g_aload_n C 41 0 dX6_copyFrom_40 rfl rfl ?_
  refine g_aload_n C 42 1 dX6_copyFrom_41 rfl rfl ?_
  refine g_get (v := .int (T2.1 5)) C 45 6 7 5 hin_6 rfl rfl (by decide) wf_X6_27 rfl dX6_copyFrom_42 rfl ?_
  refine g_put (w' := (cells66 L t q t2 q2 (su (su (su (su (su (su T 0 (T2.1 0)) 1 (T2.1 1)) 2 (T2.1 2)) 3 (T2.1 3)) 4 (T2.1 4)) 5 (T2.1 5)) T2)) C 48 6 0 5 hin_6 tyX6 tyX6_ok nmX6 rfl rfl (by decide) wf_X6_27 rfl rfl rfl (Nat.le_of_ble_eq_true rfl) dX6_copyFrom_45 rfl rfl ?_
  refine g_aload_n C 49 1 dX6_copyFrom_48 rfl rfl ?_
  refine g_get (v := .ref (q2 6)) C 52 6 7 6 hin_6 rfl rfl (by decide) wf_X6_30 rfl dX6_copyFrom_49 rfl ?_
  refine g_aload_n C 53 0 dX6_copyFrom_52 rfl rfl ?_
  refine g_get (v := .ref (q 6)) C 56 6 0 6 hin_6 rfl rfl (by decide) wf_X6_30 rfl dX6_copyFrom_53 rfl ?_
  refine g_bipush C 58 (8 : Int32) dX6_copyFrom_56 rfl rfl ?_
  refine bnd h (fun x1 e1 h => ?_)
  refine g_callNw (w' := (cells66 L t q t2 q2 (sa (su (su (su (su (su (su T 0 (T2.1 0)) 1 (T2.1 1)) 2 (T2.1 2)) 3 (T2.1 3)) 4 (T2.1 4)) 5 (T2.1 5)) 6 x1) T2)) C 61 [] [] (ct_X7_copyRow L (q2 6) 8 (T2.2 6) (q 6) 8 (T.2 6) (8 : Int32) x1 e1) kX7_copyRow kvX7_copyRow wn_X6_49 [8, 1] rfl rfl rfl rfl rfl rfl rfl (Nat.le_of_ble_eq_true rfl) ⟨Nat.le_of_ble_eq_true rfl, Nat.le_of_ble_eq_true rfl⟩ ⟨Nat.zero_le _, Nat.zero_le _⟩ dX6_copyFrom_58 rfl ?_
  refine g_aload_n C 62 1 dX6_copyFrom_61 rfl rfl ?_
  refine g_get (v := .ref (q2 7)) C 65 6 7 7 hin_6 rfl rfl (by decide) wf_X6_34 rfl dX6_copyFrom_62 rfl ?_
  refine g_aload_n C 66 0 dX6_copyFrom_65 rfl rfl ?_
  refine g_get (v := .ref (q 7)) C 69 6 0 7 hin_6 rfl rfl (by decide) wf_X6_34 rfl dX6_copyFrom_66 rfl ?_
  refine g_bipush C 71 (8 : Int32) dX6_copyFrom_69 rfl rfl ?_
  refine bnd h (fun x2 e2 h => ?_)
  refine g_callNw (w' := (cells66 L t q t2 q2 (sa (sa (su (su (su (su (su (su T 0 (T2.1 0)) 1 (T2.1 1)) 2 (T2.1 2)) 3 (T2.1 3)) 4 (T2.1 4)) 5 (T2.1 5)) 6 x1) 7 x2) T2)) C 74 [] [] (ct_X7_copyRow L (q2 7) 8 (T2.2 7) (q 7) 8 (T.2 7) (8 : Int32) x2 e2) kX7_copyRow kvX7_copyRow wn_X6_49 [9, 2] rfl rfl rfl rfl rfl rfl rfl (Nat.le_of_ble_eq_true rfl) ⟨Nat.le_of_ble_eq_true rfl, Nat.le_of_ble_eq_true rfl⟩ ⟨Nat.zero_le _, Nat.zero_le _⟩ dX6_copyFrom_71 rfl ?_
  refine g_aload_n C 75 1 dX6_copyFrom_74 rfl rfl ?_
  refine g_get (v := .ref (q2 8)) C 78 6 7 8 hin_6 rfl rfl (by decide) wf_X6_37 rfl dX6_copyFrom_75 rfl ?_
  refine g_aload_n C 79 0 dX6_copyFrom_78 rfl rfl ?_
  refine g_get (v := .ref (q 8)) C 82 6 0 8 hin_6 rfl rfl (by decide) wf_X6_37 rfl dX6_copyFrom_79 rfl ?_
  refine g_bipush C 84 (8 : Int32) dX6_copyFrom_82 rfl rfl ?_
  refine bnd h (fun x3 e3 h => ?_)
  refine g_callNw (w' := (cells66 L t q t2 q2 (sa (sa (sa (su (su (su (su (su (su T 0 (T2.1 0)) 1 (T2.1 1)) 2 (T2.1 2)) 3 (T2.1 3)) 4 (T2.1 4)) 5 (T2.1 5)) 6 x1) 7 x2) 8 x3) T2)) C 87 [] [] (ct_X7_copyRow L (q2 8) 8 (T2.2 8) (q 8) 8 (T.2 8) (8 : Int32) x3 e3) kX7_copyRow kvX7_copyRow wn_X6_49 [10, 3] rfl rfl rfl rfl rfl rfl rfl (Nat.le_of_ble_eq_true rfl) ⟨Nat.le_of_ble_eq_true rfl, Nat.le_of_ble_eq_true rfl⟩ ⟨Nat.zero_le _, Nat.zero_le _⟩ dX6_copyFrom_84 rfl ?_
  refine g_aload_n C 88 1 dX6_copyFrom_87 rfl rfl ?_
  refine g_get (v := .ref (q2 9)) C 91 6 7 9 hin_6 rfl rfl (by decide) wf_X6_40 rfl dX6_copyFrom_88 rfl ?_
  refine g_aload_n C 92 0 dX6_copyFrom_91 rfl rfl ?_
  refine g_get (v := .ref (q 9)) C 95 6 0 9 hin_6 rfl rfl (by decide) wf_X6_40 rfl dX6_copyFrom_92 rfl ?_
  refine g_bipush C 97 (6 : Int32) dX6_copyFrom_95 rfl rfl ?_
  refine bnd h (fun x4 e4 h => ?_)
  refine g_callNw (w' := (cells66 L t q t2 q2 (sa (sa (sa (sa (su (su (su (su (su (su T 0 (T2.1 0)) 1 (T2.1 1)) 2 (T2.1 2)) 3 (T2.1 3)) 4 (T2.1 4)) 5 (T2.1 5)) 6 x1) 7 x2) 8 x3) 9 x4) T2)) C 100 [] [] (ct_X7_copyRow L (q2 9) 6 (T2.2 9) (q 9) 6 (T.2 9) (6 : Int32) x4 e4) kX7_copyRow kvX7_copyRow wn_X6_49 [11, 4] rfl rfl rfl rfl rfl rfl rfl (Nat.le_of_ble_eq_true rfl) ⟨Nat.le_of_ble_eq_true rfl, Nat.le_of_ble_eq_true rfl⟩ ⟨Nat.zero_le _, Nat.zero_le _⟩ dX6_copyFrom_97 rfl ?_
  refine g_aload_n C 101 1 dX6_copyFrom_100 rfl rfl ?_
  refine g_get (v := .ref (q2 10)) C 104 6 7 10 hin_6 rfl rfl (by decide) wf_X6_43 rfl dX6_copyFrom_101 rfl ?_
  refine g_aload_n C 105 0 dX6_copyFrom_104 rfl rfl ?_
  refine g_get (v := .ref (q 10)) C 108 6 0 10 hin_6 rfl rfl (by decide) wf_X6_43 rfl dX6_copyFrom_105 rfl ?_
  refine g_iconst C 109 (5 : Int32) dX6_copyFrom_108 rfl rfl ?_
  refine bnd h (fun x5 e5 h => ?_)
  refine g_callNw (w' := (cells66 L t q t2 q2 (sa (sa (sa (sa (sa (su (su (su (su (su (su T 0 (T2.1 0)) 1 (T2.1 1)) 2 (T2.1 2)) 3 (T2.1 3)) 4 (T2.1 4)) 5 (T2.1 5)) 6 x1) 7 x2) 8 x3) 9 x4) 10 x5) T2)) C 112 [] [] (ct_X7_copyRow L (q2 10) 5 (T2.2 10) (q 10) 5 (T.2 10) (5 : Int32) x5 e5) kX7_copyRow kvX7_copyRow wn_X6_49 [12, 5] rfl rfl rfl rfl rfl rfl rfl (Nat.le_of_ble_eq_true rfl) ⟨Nat.le_of_ble_eq_true rfl, Nat.le_of_ble_eq_true rfl⟩ ⟨Nat.zero_le _, Nat.zero_le _⟩ dX6_copyFrom_109 rfl ?_
  refine g_aload_n C 113 1 dX6_copyFrom_112 rfl rfl ?_
  refine g_get (v := .ref (q2 11)) C 116 6 7 11 hin_6 rfl rfl (by decide) wf_X6_46 rfl dX6_copyFrom_113 rfl ?_
  refine g_aload_n C 117 0 dX6_copyFrom_116 rfl rfl ?_
  refine g_get (v := .ref (q 11)) C 120 6 0 11 hin_6 rfl rfl (by decide) wf_X6_46 rfl dX6_copyFrom_117 rfl ?_
  refine g_iconst C 121 (5 : Int32) dX6_copyFrom_120 rfl rfl ?_
  refine bnd h (fun x6 e6 h => ?_)
  refine g_callNw (w' := (cells66 L t q t2 q2 (sa (sa (sa (sa (sa (sa (su (su (su (su (su (su T 0 (T2.1 0)) 1 (T2.1 1)) 2 (T2.1 2)) 3 (T2.1 3)) 4 (T2.1 4)) 5 (T2.1 5)) 6 x1) 7 x2) 8 x3) 9 x4) 10 x5) 11 x6) T2)) C 124 [] [] (ct_X7_copyRow L (q2 11) 5 (T2.2 11) (q 11) 5 (T.2 11) (5 : Int32) x6 e6) kX7_copyRow kvX7_copyRow wn_X6_49 [13, 6] rfl rfl rfl rfl rfl rfl rfl (Nat.le_of_ble_eq_true rfl) ⟨Nat.le_of_ble_eq_true rfl, Nat.le_of_ble_eq_true rfl⟩ ⟨Nat.zero_le _, Nat.zero_le _⟩ dX6_copyFrom_121 rfl ?_
  exact g_vret (st := []) C E dX6_copyFrom_124 (by obtain rfl := Option.some.inj h; exact ⟨rfl, rfl⟩)
