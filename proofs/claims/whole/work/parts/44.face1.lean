set_option maxHeartbeats 4000000 in
set_option maxRecDepth 100000 in
theorem ct_X7_refuse (L : LL) (o : Nat → Nat) (q : Nat → Nat → Nat) (Z : Nat → OS) (v1 : Int32) (x : (Int32 × (Nat → OS))) (h : f_X7_refuse Z v1 = some x) : Ct L yX7_refuse cX7_refuse 2 (some .int) (rmk 1 0 0 22) 0 0 [.ref (o 0), .int v1] (cells7 L o q Z) (Pv (some (.int x.1)) (cells7 L o q x.2)) := by
  refine g_enter (lv := [(0, .ref (o 0)), (1, .int v1)]) kX7_refuse rfl rfl (Nat.le_of_ble_eq_true rfl) (fun Γ C E hNL => ?_)
  unfold f_X7_refuse at h
  refine g_aload_n C 1 0 dX7_refuse_0 rfl rfl ?_
  refine g_get (v := .ref ((q 0) 9)) C 4 7 0 9 hin_7 rfl rfl (by decide) wf_X7_66 rfl dX7_refuse_1 rfl ?_
  refine g_iload_n C 5 1 dX7_refuse_4 rfl rfl ?_
  refine g_ineg C 6 dX7_refuse_5 rfl ?_
  refine g_aload_n C 7 0 dX7_refuse_6 rfl rfl ?_
  refine g_get (v := .ref ((q 0) 9)) C 10 7 0 9 hin_7 rfl rfl (by decide) wf_X7_66 rfl dX7_refuse_7 rfl ?_
  refine g_iload_n C 11 1 dX7_refuse_10 rfl rfl ?_
  refine g_ineg C 12 dX7_refuse_11 rfl ?_
  refine bnd h (fun x1 e1 h => ?_)
  refine g_callSr C 15 [.int (-v1), .ref ((q 0) 9)] [.int x1, .int (-v1), .ref ((q 0) 9)] (ct_X7_at L ((q 0) 9) 7 ((Z 0).2 9) (-v1) x1 e1) kX7_at kvX7_at wl_X7_100 [32] rfl rfl rfl rfl rfl (Nat.le_of_ble_eq_true rfl) ⟨Nat.le_of_ble_eq_true rfl, Nat.le_of_ble_eq_true rfl⟩ ⟨Nat.zero_le _, Nat.zero_le _⟩ dX7_refuse_12 rfl ?_
  refine g_iconst C 16 (1 : Int32) dX7_refuse_15 rfl rfl ?_
  refine g_iadd C 17 dX7_refuse_16 rfl ?_
  refine bnd h (fun x2 e2 h => ?_)
  refine g_callSw (w' := (cells7 L o q (upA Z 0 (sa (Z 0) 9 x2)))) C 20 [] [] (ct_X7_store L ((q 0) 9) 7 ((Z 0).2 9) (-v1) (x1 + (1 : Int32)) x2 e2) kX7_store kvX7_store wl_X7_345 [32] rfl rfl rfl rfl rfl rfl rfl (Nat.le_of_ble_eq_true rfl) ⟨Nat.le_of_ble_eq_true rfl, Nat.le_of_ble_eq_true rfl⟩ ⟨Nat.zero_le _, Nat.zero_le _⟩ dX7_refuse_17 rfl ?_
  refine g_iload_n C 21 1 dX7_refuse_20 rfl rfl ?_
  exact g_iret (st := []) C E dX7_refuse_21 (by obtain rfl := Option.some.inj h; exact ⟨rfl, rfl⟩)
set_option maxHeartbeats 4000000 in
set_option maxRecDepth 100000 in
theorem ct_X7_feed (L : LL) (o : Nat → Nat) (q : Nat → Nat → Nat) (Z : Nat → OS) (v1 : Int32) (x : (Int32 × (Nat → OS))) (h : f_X7_feed Z v1 = some x) : Ct L yX7_feed cX7_feed 2 (some .int) (rmk 2 0 0 43) 0 0 [.ref (o 0), .int v1] (cells7 L o q Z) (Pv (some (.int x.1)) (cells7 L o q x.2)) := by
  refine g_enter (lv := [(0, .ref (o 0)), (1, .int v1)]) kX7_feed rfl rfl (Nat.le_of_ble_eq_true rfl) (fun Γ C E hNL => ?_)
  unfold f_X7_feed at h
  refine g_iload_n C 1 1 dX7_feed_0 rfl rfl ?_
  refine g_if_ge C 11 4 dX7_feed_1 (by decide) rfl (fun c => ?_) (fun c => ?_)
  · have h := ifT c h
    refine g_iload_n C 12 1 dX7_feed_11 rfl rfl ?_
    refine g_sipush C 15 (255 : Int32) dX7_feed_12 rfl rfl ?_
    refine g_icmp_gt C 30 18 dX7_feed_15 (by decide) rfl (fun c => ?_) (fun c => ?_)
    · have h := ifT c h
      refine g_aload_n C 31 0 dX7_feed_30 rfl rfl ?_
      refine g_bipush C 33 (-6 : Int32) dX7_feed_31 rfl rfl ?_
      refine bnd h (fun x1 e1 h => ?_)
      refine g_callVs (w' := (cells7 L o q x1.2)) C 36 [] [.int x1.1] (ct_X7_refuse L o q Z (-6 : Int32) x1 e1) kX7_refuse kvX7_refuse wl_X7_74 7 0 rfl rfl rfl rfl rfl rfl rfl (Nat.le_of_ble_eq_true rfl) ⟨Nat.le_of_ble_eq_true rfl, Nat.le_of_ble_eq_true rfl⟩ ⟨Nat.zero_le _, Nat.zero_le _⟩ dX7_feed_33 rfl ?_
      exact g_iret (st := []) C E dX7_feed_36 (by obtain rfl := Option.some.inj h; exact ⟨rfl, rfl⟩)
    · have h := ifF c h
      refine g_aload_n C 19 0 dX7_feed_18 rfl rfl ?_
      refine g_get (v := .ref (o 5)) C 22 7 0 4 hin_7 rfl rfl (by decide) wf_X7_32 rfl dX7_feed_19 rfl ?_
      refine g_get (v := .int ((Z 5).1 0)) C 25 0 24 0 hin_0 rfl rfl (by decide) wf_X7_78 rfl dX7_feed_22 rfl ?_
      refine g_bipush C 27 (96 : Int32) dX7_feed_25 rfl rfl ?_
      refine g_icmp_lt C 37 30 dX7_feed_27 (by decide) rfl (fun c => ?_) (fun c => ?_)
      · have h := ifT c h
        refine g_aload_n C 38 0 dX7_feed_37 rfl rfl ?_
        refine g_get (v := .ref (o 5)) C 41 7 0 4 hin_7 rfl rfl (by decide) wf_X7_32 rfl dX7_feed_38 rfl ?_
        refine g_iload_n C 42 1 dX7_feed_41 rfl rfl ?_
        refine bnd h (fun x2 e2 h => ?_)
        refine g_callVw (w' := (cells7 L o q (upA Z 5 x2.2))) C 45 [] [.int x2.1] (ct_X0_add L (o 5) (q 5) (Z 5) v1 x2 e2) kX0_add kvX0_add wl_X7_82 0 0 rfl rfl rfl [24, 25] rfl rfl rfl rfl rfl rfl rfl (Nat.le_of_ble_eq_true rfl) ⟨Nat.le_of_ble_eq_true rfl, Nat.le_of_ble_eq_true rfl⟩ ⟨Nat.zero_le _, Nat.zero_le _⟩ dX7_feed_42 rfl ?_
        exact g_iret (st := []) C E dX7_feed_45 (by obtain rfl := Option.some.inj h; exact ⟨rfl, rfl⟩)
      · have h := ifF c h
        refine g_aload_n C 31 0 dX7_feed_30 rfl rfl ?_
        refine g_bipush C 33 (-6 : Int32) dX7_feed_31 rfl rfl ?_
        refine bnd h (fun x3 e3 h => ?_)
        refine g_callVs (w' := (cells7 L o q x3.2)) C 36 [] [.int x3.1] (ct_X7_refuse L o q Z (-6 : Int32) x3 e3) kX7_refuse kvX7_refuse wl_X7_74 7 0 rfl rfl rfl rfl rfl rfl rfl (Nat.le_of_ble_eq_true rfl) ⟨Nat.le_of_ble_eq_true rfl, Nat.le_of_ble_eq_true rfl⟩ ⟨Nat.zero_le _, Nat.zero_le _⟩ dX7_feed_33 rfl ?_
        exact g_iret (st := []) C E dX7_feed_36 (by obtain rfl := Option.some.inj h; exact ⟨rfl, rfl⟩)
  · have h := ifF c h
    refine g_aload_n C 5 0 dX7_feed_4 rfl rfl ?_
    refine g_bipush C 7 (-4 : Int32) dX7_feed_5 rfl rfl ?_
    refine bnd h (fun x4 e4 h => ?_)
    refine g_callVs (w' := (cells7 L o q x4.2)) C 10 [] [.int x4.1] (ct_X7_refuse L o q Z (-4 : Int32) x4 e4) kX7_refuse kvX7_refuse wl_X7_74 7 0 rfl rfl rfl rfl rfl rfl rfl (Nat.le_of_ble_eq_true rfl) ⟨Nat.le_of_ble_eq_true rfl, Nat.le_of_ble_eq_true rfl⟩ ⟨Nat.zero_le _, Nat.zero_le _⟩ dX7_feed_7 rfl ?_
    exact g_iret (st := []) C E dX7_feed_10 (by obtain rfl := Option.some.inj h; exact ⟨rfl, rfl⟩)
set_option maxHeartbeats 4000000 in
set_option maxRecDepth 100000 in
theorem ct_X7_town (L : LL) (o : Nat → Nat) (q : Nat → Nat → Nat) (Z : Nat → OS) (x : (Int32 × (Nat → OS))) (h : f_X7_town Z = some x) : Ct L yX7_town cX7_town 2 (some .int) (rmk 7 0 0 168) 0 0 [.ref (o 0)] (cells7 L o q Z) (Pv (some (.int x.1)) (cells7 L o q x.2)) := by
  refine g_enter (lv := [(0, .ref (o 0))]) kX7_town rfl rfl (Nat.le_of_ble_eq_true rfl) (fun Γ C E hNL => ?_)
  unfold f_X7_town at h
  refine g_aload_n C 1 0 dX7_town_0 rfl rfl ?_
  refine g_get (v := .ref (o 3)) C 4 7 0 2 hin_7 rfl rfl (by decide) wf_X7_19 rfl dX7_town_1 rfl ?_
  refine g_aload_n C 5 0 dX7_town_4 rfl rfl ?_
  refine g_get (v := .ref (o 1)) C 8 7 0 0 hin_7 rfl rfl (by decide) wf_X7_10 rfl dX7_town_5 rfl ?_
  refine bnd h (fun x1 e1 h => ?_)
  refine g_callVw (w' := (cells7 L o q (upA Z 3 x1))) C 11 [] [] (ct_X6_copyFrom L (o 3) (q 3) (o 1) (q 1) (Z 3) (Z 1) x1 e1) kX6_copyFrom kvX6_copyFrom wl_X7_85 6 0 rfl rfl rfl [15, 16, 17, 18, 19, 20, 21, 1, 2, 3, 4, 5, 6, 7] rfl rfl rfl rfl rfl rfl rfl (Nat.le_of_ble_eq_true rfl) ⟨Nat.le_of_ble_eq_true rfl, Nat.le_of_ble_eq_true rfl⟩ ⟨Nat.zero_le _, Nat.zero_le _⟩ dX7_town_8 rfl ?_
  refine g_aload_n C 12 0 dX7_town_11 rfl rfl ?_
  refine g_get (v := .ref (o 5)) C 15 7 0 4 hin_7 rfl rfl (by decide) wf_X7_32 rfl dX7_town_12 rfl ?_
  refine g_aload_n C 16 0 dX7_town_15 rfl rfl ?_
  refine g_get (v := .ref (o 3)) C 19 7 0 2 hin_7 rfl rfl (by decide) wf_X7_19 rfl dX7_town_16 rfl ?_
  refine bnd h (fun x2 e2 h => ?_)
  refine g_callVw (w' := (cells7 L o q (upA Z 3 x2.2))) C 22 [] [.int x2.1] (ct_X0_runOn L (o 5) (q 5) (o 3) (q 3) (Z 5) x1 x2 e2) kX0_runOn kvX0_runOn wl_X7_88 0 0 rfl rfl rfl [24, 25, 15, 16, 17, 18, 19, 20, 21] rfl rfl rfl rfl rfl rfl rfl (Nat.le_of_ble_eq_true rfl) ⟨Nat.le_of_ble_eq_true rfl, Nat.le_of_ble_eq_true rfl⟩ ⟨Nat.zero_le _, Nat.zero_le _⟩ dX7_town_19 rfl ?_
  refine g_istore_n C 23 1 [(1, .int x2.1), (0, .ref (o 0))] dX7_town_22 rfl rfl 2 hNL (by decide) rfl ?_
  refine g_aload_n C 24 1 dX7_town_23 rfl rfl ?_
  refine g_get (v := .ref (o 5)) C 27 7 0 4 hin_7 rfl rfl (by decide) wf_X7_32 rfl dX7_town_24 rfl ?_
  refine g_iconst C 28 (0 : Int32) dX7_town_27 rfl rfl ?_
  refine g_put (w' := (cells7 L o q (upA (upA Z 3 x2.2) 5 (su (Z 5) 0 (0 : Int32))))) C 31 0 24 0 hin_0 tyX0 tyX0_ok nmX0 rfl rfl (by decide) wf_X7_78 rfl rfl rfl (Nat.le_of_ble_eq_true rfl) dX7_town_28 rfl rfl ?_
  refine g_iload_n C 32 0 dX7_town_31 rfl rfl ?_
  refine g_if_lt C 54 35 dX7_town_32 (by decide) rfl (fun c => ?_) (fun c => ?_)
  · have h := ifT c h
    refine g_iload_n C 55 0 dX7_town_54 rfl rfl ?_
    exact g_iret (st := []) C E dX7_town_55 (by obtain rfl := Option.some.inj h; exact ⟨rfl, rfl⟩)
  · have h := ifF c h
    refine g_aload_n C 36 1 dX7_town_35 rfl rfl ?_
    refine g_get (v := .ref (o 1)) C 39 7 0 0 hin_7 rfl rfl (by decide) wf_X7_10 rfl dX7_town_36 rfl ?_
    refine g_aload_n C 40 1 dX7_town_39 rfl rfl ?_
    refine g_get (v := .ref (o 3)) C 43 7 0 2 hin_7 rfl rfl (by decide) wf_X7_19 rfl dX7_town_40 rfl ?_
    refine bnd h (fun x3 e3 h => ?_)
    refine g_callVw (w' := (cells7 L o q (upA (upA (upA Z 1 x3) 3 x2.2) 5 (su (Z 5) 0 (0 : Int32))))) C 46 [] [] (ct_X6_copyFrom L (o 1) (q 1) (o 3) (q 3) (Z 1) x2.2 x3 e3) kX6_copyFrom kvX6_copyFrom wl_X7_85 6 0 rfl rfl rfl [1, 2, 3, 4, 5, 6, 7, 15, 16, 17, 18, 19, 20, 21] rfl rfl rfl rfl rfl rfl rfl (Nat.le_of_ble_eq_true rfl) ⟨Nat.le_of_ble_eq_true rfl, Nat.le_of_ble_eq_true rfl⟩ ⟨Nat.zero_le _, Nat.zero_le _⟩ dX7_town_43 rfl ?_
    refine g_aload_n C 47 1 dX7_town_46 rfl rfl ?_
    refine g_get (v := .ref (o 4)) C 50 7 0 3 hin_7 rfl rfl (by decide) wf_X7_25 rfl dX7_town_47 rfl ?_
    refine g_iconst C 51 (0 : Int32) dX7_town_50 rfl rfl ?_
    refine g_put (w' := (cells7 L o q (upA (upA (upA (upA Z 1 x3) 3 x2.2) 4 (su (Z 4) 0 (0 : Int32))) 5 (su (Z 5) 0 (0 : Int32))))) C 54 4 22 0 hin_4 tyX4 tyX4_ok nmX4 rfl rfl (by decide) wf_X7_92 rfl rfl rfl (Nat.le_of_ble_eq_true rfl) dX7_town_51 rfl rfl ?_
    refine g_iload_n C 55 0 dX7_town_54 rfl rfl ?_
    exact g_iret (st := []) C E dX7_town_55 (by obtain rfl := Option.some.inj h; exact ⟨rfl, rfl⟩)
set_option maxHeartbeats 4000000 in
set_option maxRecDepth 100000 in
theorem ct_X7_streetOf (L : LL) (o : Nat → Nat) (q : Nat → Nat → Nat) (Z : Nat → OS) (v1 : Int32) (v2 : Int32) (x : (Int32 × (Nat → OS))) (h : f_X7_streetOf Z v1 v2 = some x) : Ct L yX7_streetOf cX7_streetOf 3 (some .int) (rmk 2 0 0 44) 0 0 [.ref (o 0), .int v1, .int v2] (cells7 L o q Z) (Pv (some (.int x.1)) (cells7 L o q x.2)) := by
  refine g_enter (lv := [(0, .ref (o 0)), (1, .int v1), (2, .int v2)]) kX7_streetOf rfl rfl (Nat.le_of_ble_eq_true rfl) (fun Γ C E hNL => ?_)
  unfold f_X7_streetOf at h
  refine g_aload_n C 1 0 dX7_streetOf_0 rfl rfl ?_
  refine g_get (v := .ref (o 1)) C 4 7 0 0 hin_7 rfl rfl (by decide) wf_X7_10 rfl dX7_streetOf_1 rfl ?_
  refine g_iload_n C 5 1 dX7_streetOf_4 rfl rfl ?_
  refine bnd h (fun x1 e1 h => ?_)
  refine g_callVr C 8 [] [.int x1] (ct_X6_hasStreet L (o 1) (q 1) (Z 1) v1 x1 e1) kX6_hasStreet kvX6_hasStreet wl_X7_93 6 0 rfl rfl rfl [1, 2, 3, 4, 5, 6, 7] rfl rfl rfl rfl rfl (Nat.le_of_ble_eq_true rfl) ⟨Nat.le_of_ble_eq_true rfl, Nat.le_of_ble_eq_true rfl⟩ ⟨Nat.zero_le _, Nat.zero_le _⟩ dX7_streetOf_5 rfl ?_
  refine g_if_ne C 17 11 dX7_streetOf_8 (by decide) rfl (fun c => ?_) (fun c => ?_)
  · have h := ifF c h
    refine g_iload_n C 18 2 dX7_streetOf_17 rfl rfl ?_
    by_cases c0 : v2 = (0 : Int32)
    · have h := ifT c0 h
      refine g_tabIn C 52 (34) dX7_streetOf_18 (by rw [c0]; decide) (by rw [c0]; decide) (by rw [c0]; rfl) (by decide) ?_
      refine g_aload_n C 53 0 dX7_streetOf_52 rfl rfl ?_
      refine g_get (v := .ref (o 1)) C 56 7 0 0 hin_7 rfl rfl (by decide) wf_X7_10 rfl dX7_streetOf_53 rfl ?_
      refine g_get (v := .ref ((q 1) 6)) C 59 6 1 6 hin_6 rfl rfl (by decide) wf_X7_97 rfl dX7_streetOf_56 rfl ?_
      refine g_iload_n C 60 1 dX7_streetOf_59 rfl rfl ?_
      refine bnd h (fun x2 e2 h => ?_)
      refine g_callSr C 63 [] [.int x2] (ct_X7_at L ((q 1) 6) 8 ((Z 1).2 6) v1 x2 e2) kX7_at kvX7_at wl_X7_100 [2] rfl rfl rfl rfl rfl (Nat.le_of_ble_eq_true rfl) ⟨Nat.le_of_ble_eq_true rfl, Nat.le_of_ble_eq_true rfl⟩ ⟨Nat.zero_le _, Nat.zero_le _⟩ dX7_streetOf_60 rfl ?_
      exact g_iret (st := []) C E dX7_streetOf_63 (by obtain rfl := Option.some.inj h; exact ⟨rfl, rfl⟩)
    have h := ifF c0 h
    by_cases c1 : v2 = (1 : Int32)
    · have h := ifT c1 h
      refine g_tabIn C 64 (46) dX7_streetOf_18 (by rw [c1]; decide) (by rw [c1]; decide) (by rw [c1]; rfl) (by decide) ?_
      refine g_aload_n C 65 0 dX7_streetOf_64 rfl rfl ?_
      refine g_get (v := .ref (o 1)) C 68 7 0 0 hin_7 rfl rfl (by decide) wf_X7_10 rfl dX7_streetOf_65 rfl ?_
      refine g_get (v := .ref ((q 1) 7)) C 71 6 1 7 hin_6 rfl rfl (by decide) wf_X7_104 rfl dX7_streetOf_68 rfl ?_
      refine g_iload_n C 72 1 dX7_streetOf_71 rfl rfl ?_
      refine bnd h (fun x3 e3 h => ?_)
      refine g_callSr C 75 [] [.int x3] (ct_X7_at L ((q 1) 7) 8 ((Z 1).2 7) v1 x3 e3) kX7_at kvX7_at wl_X7_100 [3] rfl rfl rfl rfl rfl (Nat.le_of_ble_eq_true rfl) ⟨Nat.le_of_ble_eq_true rfl, Nat.le_of_ble_eq_true rfl⟩ ⟨Nat.zero_le _, Nat.zero_le _⟩ dX7_streetOf_72 rfl ?_
      exact g_iret (st := []) C E dX7_streetOf_75 (by obtain rfl := Option.some.inj h; exact ⟨rfl, rfl⟩)
    have h := ifF c1 h
    by_cases c2 : v2 = (2 : Int32)
    · have h := ifT c2 h
      refine g_tabIn C 76 (58) dX7_streetOf_18 (by rw [c2]; decide) (by rw [c2]; decide) (by rw [c2]; rfl) (by decide) ?_
      refine g_aload_n C 77 0 dX7_streetOf_76 rfl rfl ?_
      refine g_get (v := .ref (o 1)) C 80 7 0 0 hin_7 rfl rfl (by decide) wf_X7_10 rfl dX7_streetOf_77 rfl ?_
      refine g_get (v := .ref ((q 1) 8)) C 83 6 1 8 hin_6 rfl rfl (by decide) wf_X7_107 rfl dX7_streetOf_80 rfl ?_
      refine g_iload_n C 84 1 dX7_streetOf_83 rfl rfl ?_
      refine bnd h (fun x4 e4 h => ?_)
      refine g_callSr C 87 [] [.int x4] (ct_X7_at L ((q 1) 8) 8 ((Z 1).2 8) v1 x4 e4) kX7_at kvX7_at wl_X7_100 [4] rfl rfl rfl rfl rfl (Nat.le_of_ble_eq_true rfl) ⟨Nat.le_of_ble_eq_true rfl, Nat.le_of_ble_eq_true rfl⟩ ⟨Nat.zero_le _, Nat.zero_le _⟩ dX7_streetOf_84 rfl ?_
      exact g_iret (st := []) C E dX7_streetOf_87 (by obtain rfl := Option.some.inj h; exact ⟨rfl, rfl⟩)
    have h := ifF c2 h
    by_cases c3 : v2 = (3 : Int32)
    · have h := ifT c3 h
      refine g_tabIn C 88 (70) dX7_streetOf_18 (by rw [c3]; decide) (by rw [c3]; decide) (by rw [c3]; rfl) (by decide) ?_
      refine g_aload_n C 89 0 dX7_streetOf_88 rfl rfl ?_
      refine g_get (v := .ref (o 1)) C 92 7 0 0 hin_7 rfl rfl (by decide) wf_X7_10 rfl dX7_streetOf_89 rfl ?_
      refine g_iload_n C 93 1 dX7_streetOf_92 rfl rfl ?_
      refine g_aload_n C 94 0 dX7_streetOf_93 rfl rfl ?_
      refine g_get (v := .ref (o 1)) C 97 7 0 0 hin_7 rfl rfl (by decide) wf_X7_10 rfl dX7_streetOf_94 rfl ?_
      refine g_get (v := .int ((Z 1).1 3)) C 100 6 1 3 hin_6 rfl rfl (by decide) wf_X7_110 rfl dX7_streetOf_97 rfl ?_
      refine bnd h (fun x5 e5 h => ?_)
      refine g_callVr C 103 [] [.int x5] (ct_X6_hardOf L (o 1) (q 1) (Z 1) v1 ((Z 1).1 3) x5 e5) kX6_hardOf kvX6_hardOf wl_X7_113 6 0 rfl rfl rfl [1, 2, 3, 4, 5, 6, 7] rfl rfl rfl rfl rfl (Nat.le_of_ble_eq_true rfl) ⟨Nat.le_of_ble_eq_true rfl, Nat.le_of_ble_eq_true rfl⟩ ⟨Nat.zero_le _, Nat.zero_le _⟩ dX7_streetOf_100 rfl ?_
      exact g_iret (st := []) C E dX7_streetOf_103 (by obtain rfl := Option.some.inj h; exact ⟨rfl, rfl⟩)
    have h := ifF c3 h
    by_cases c4 : v2 = (4 : Int32)
    · have h := ifT c4 h
      refine g_tabIn C 104 (86) dX7_streetOf_18 (by rw [c4]; decide) (by rw [c4]; decide) (by rw [c4]; rfl) (by decide) ?_
      refine g_aload_n C 105 0 dX7_streetOf_104 rfl rfl ?_
      refine g_get (v := .ref (o 1)) C 108 7 0 0 hin_7 rfl rfl (by decide) wf_X7_10 rfl dX7_streetOf_105 rfl ?_
      refine g_iload_n C 109 1 dX7_streetOf_108 rfl rfl ?_
      refine bnd h (fun x6 e6 h => ?_)
      refine g_callVr C 112 [] [.int x6] (ct_X6_ballOf L (o 1) (q 1) (Z 1) v1 x6 e6) kX6_ballOf kvX6_ballOf wl_X7_117 6 0 rfl rfl rfl [1, 2, 3, 4, 5, 6, 7] rfl rfl rfl rfl rfl (Nat.le_of_ble_eq_true rfl) ⟨Nat.le_of_ble_eq_true rfl, Nat.le_of_ble_eq_true rfl⟩ ⟨Nat.zero_le _, Nat.zero_le _⟩ dX7_streetOf_109 rfl ?_
      exact g_iret (st := []) C E dX7_streetOf_112 (by obtain rfl := Option.some.inj h; exact ⟨rfl, rfl⟩)
    have h := ifF c4 h
    have t0 := ne_toInt c0 (show ((0 : Int32) : Int32).toInt = 0 by decide +kernel)
    have t1 := ne_toInt c1 (show ((1 : Int32) : Int32).toInt = 1 by decide +kernel)
    have t2 := ne_toInt c2 (show ((2 : Int32) : Int32).toInt = 2 by decide +kernel)
    have t3 := ne_toInt c3 (show ((3 : Int32) : Int32).toInt = 3 by decide +kernel)
    have t4 := ne_toInt c4 (show ((4 : Int32) : Int32).toInt = 4 by decide +kernel)
    by_cases cr : (v2).toInt < 0 ∨ 4 < (v2).toInt
    · refine g_tabOut C 113 dX7_streetOf_18 cr (by decide) ?_
      refine g_aload_n C 114 0 dX7_streetOf_113 rfl rfl ?_
      refine g_bipush C 116 (-2 : Int32) dX7_streetOf_114 rfl rfl ?_
      refine bnd h (fun x7 e7 h => ?_)
      refine g_callVs (w' := (cells7 L o q x7.2)) C 119 [] [.int x7.1] (ct_X7_refuse L o q Z (-2 : Int32) x7 e7) kX7_refuse kvX7_refuse wl_X7_74 7 0 rfl rfl rfl rfl rfl rfl rfl (Nat.le_of_ble_eq_true rfl) ⟨Nat.le_of_ble_eq_true rfl, Nat.le_of_ble_eq_true rfl⟩ ⟨Nat.zero_le _, Nat.zero_le _⟩ dX7_streetOf_116 rfl ?_
      exact g_iret (st := []) C E dX7_streetOf_119 (by obtain rfl := Option.some.inj h; exact ⟨rfl, rfl⟩)
    · exfalso; omega
  · have h := ifT c h
    refine g_aload_n C 12 0 dX7_streetOf_11 rfl rfl ?_
    refine g_iconst C 13 (-1 : Int32) dX7_streetOf_12 rfl rfl ?_
    refine bnd h (fun x8 e8 h => ?_)
    refine g_callVs (w' := (cells7 L o q x8.2)) C 16 [] [.int x8.1] (ct_X7_refuse L o q Z (-1 : Int32) x8 e8) kX7_refuse kvX7_refuse wl_X7_74 7 0 rfl rfl rfl rfl rfl rfl rfl (Nat.le_of_ble_eq_true rfl) ⟨Nat.le_of_ble_eq_true rfl, Nat.le_of_ble_eq_true rfl⟩ ⟨Nat.zero_le _, Nat.zero_le _⟩ dX7_streetOf_13 rfl ?_
    exact g_iret (st := []) C E dX7_streetOf_16 (by obtain rfl := Option.some.inj h; exact ⟨rfl, rfl⟩)
set_option maxHeartbeats 4000000 in
set_option maxRecDepth 100000 in
theorem ct_X7_learnerOf (L : LL) (o : Nat → Nat) (q : Nat → Nat → Nat) (Z : Nat → OS) (v1 : Int32) (v2 : Int32) (x : (Int32 × (Nat → OS))) (h : f_X7_learnerOf Z v1 v2 = some x) : Ct L yX7_learnerOf cX7_learnerOf 3 (some .int) (rmk 2 0 0 43) 0 0 [.ref (o 0), .int v1, .int v2] (cells7 L o q Z) (Pv (some (.int x.1)) (cells7 L o q x.2)) := by
  refine g_enter (lv := [(0, .ref (o 0)), (1, .int v1), (2, .int v2)]) kX7_learnerOf rfl rfl (Nat.le_of_ble_eq_true rfl) (fun Γ C E hNL => ?_)
  unfold f_X7_learnerOf at h
  refine g_aload_n C 1 0 dX7_learnerOf_0 rfl rfl ?_
  refine g_get (v := .ref (o 1)) C 4 7 0 0 hin_7 rfl rfl (by decide) wf_X7_10 rfl dX7_learnerOf_1 rfl ?_
  refine g_iload_n C 5 1 dX7_learnerOf_4 rfl rfl ?_
  refine bnd h (fun x1 e1 h => ?_)
  refine g_callVr C 8 [] [.int x1] (ct_X6_hasLearner L (o 1) (q 1) (Z 1) v1 x1 e1) kX6_hasLearner kvX6_hasLearner wl_X7_120 6 0 rfl rfl rfl [1, 2, 3, 4, 5, 6, 7] rfl rfl rfl rfl rfl (Nat.le_of_ble_eq_true rfl) ⟨Nat.le_of_ble_eq_true rfl, Nat.le_of_ble_eq_true rfl⟩ ⟨Nat.zero_le _, Nat.zero_le _⟩ dX7_learnerOf_5 rfl ?_
  refine g_if_ne C 17 11 dX7_learnerOf_8 (by decide) rfl (fun c => ?_) (fun c => ?_)
  · have h := ifF c h
    refine g_iload_n C 18 2 dX7_learnerOf_17 rfl rfl ?_
    by_cases c0 : v2 = (0 : Int32)
    · have h := ifT c0 h
      refine g_lookup C 44 (26) dX7_learnerOf_18 (by decide +kernel) (by rw [c0]; rfl) (by decide) ?_
      refine g_aload_n C 45 0 dX7_learnerOf_44 rfl rfl ?_
      refine g_get (v := .ref (o 1)) C 48 7 0 0 hin_7 rfl rfl (by decide) wf_X7_10 rfl dX7_learnerOf_45 rfl ?_
      refine g_get (v := .ref ((q 1) 10)) C 51 6 1 10 hin_6 rfl rfl (by decide) wf_X7_123 rfl dX7_learnerOf_48 rfl ?_
      refine g_iload_n C 52 1 dX7_learnerOf_51 rfl rfl ?_
      refine bnd h (fun x2 e2 h => ?_)
      refine g_callSr C 55 [] [.int x2] (ct_X7_at L ((q 1) 10) 5 ((Z 1).2 10) v1 x2 e2) kX7_at kvX7_at wl_X7_100 [6] rfl rfl rfl rfl rfl (Nat.le_of_ble_eq_true rfl) ⟨Nat.le_of_ble_eq_true rfl, Nat.le_of_ble_eq_true rfl⟩ ⟨Nat.zero_le _, Nat.zero_le _⟩ dX7_learnerOf_52 rfl ?_
      exact g_iret (st := []) C E dX7_learnerOf_55 (by obtain rfl := Option.some.inj h; exact ⟨rfl, rfl⟩)
    have h := ifF c0 h
    by_cases c1 : v2 = (1 : Int32)
    · have h := ifT c1 h
      refine g_lookup C 56 (38) dX7_learnerOf_18 (by decide +kernel) (by rw [c1]; rfl) (by decide) ?_
      refine g_aload_n C 57 0 dX7_learnerOf_56 rfl rfl ?_
      refine g_get (v := .ref (o 1)) C 60 7 0 0 hin_7 rfl rfl (by decide) wf_X7_10 rfl dX7_learnerOf_57 rfl ?_
      refine g_get (v := .ref ((q 1) 11)) C 63 6 1 11 hin_6 rfl rfl (by decide) wf_X7_126 rfl dX7_learnerOf_60 rfl ?_
      refine g_iload_n C 64 1 dX7_learnerOf_63 rfl rfl ?_
      refine bnd h (fun x3 e3 h => ?_)
      refine g_callSr C 67 [] [.int x3] (ct_X7_at L ((q 1) 11) 5 ((Z 1).2 11) v1 x3 e3) kX7_at kvX7_at wl_X7_100 [7] rfl rfl rfl rfl rfl (Nat.le_of_ble_eq_true rfl) ⟨Nat.le_of_ble_eq_true rfl, Nat.le_of_ble_eq_true rfl⟩ ⟨Nat.zero_le _, Nat.zero_le _⟩ dX7_learnerOf_64 rfl ?_
      exact g_iret (st := []) C E dX7_learnerOf_67 (by obtain rfl := Option.some.inj h; exact ⟨rfl, rfl⟩)
    have h := ifF c1 h
    refine g_lookup C 68 (50) dX7_learnerOf_18 (by decide +kernel) (by refine (lv_osw c0 (by decide +kernel)).trans ?_; refine (lv_osw c1 (by decide +kernel)).trans ?_; rfl) (by decide) ?_
    refine g_aload_n C 69 0 dX7_learnerOf_68 rfl rfl ?_
    refine g_bipush C 71 (-2 : Int32) dX7_learnerOf_69 rfl rfl ?_
    refine bnd h (fun x4 e4 h => ?_)
    refine g_callVs (w' := (cells7 L o q x4.2)) C 74 [] [.int x4.1] (ct_X7_refuse L o q Z (-2 : Int32) x4 e4) kX7_refuse kvX7_refuse wl_X7_74 7 0 rfl rfl rfl rfl rfl rfl rfl (Nat.le_of_ble_eq_true rfl) ⟨Nat.le_of_ble_eq_true rfl, Nat.le_of_ble_eq_true rfl⟩ ⟨Nat.zero_le _, Nat.zero_le _⟩ dX7_learnerOf_71 rfl ?_
    exact g_iret (st := []) C E dX7_learnerOf_74 (by obtain rfl := Option.some.inj h; exact ⟨rfl, rfl⟩)
  · have h := ifT c h
    refine g_aload_n C 12 0 dX7_learnerOf_11 rfl rfl ?_
    refine g_iconst C 13 (-1 : Int32) dX7_learnerOf_12 rfl rfl ?_
    refine bnd h (fun x5 e5 h => ?_)
    refine g_callVs (w' := (cells7 L o q x5.2)) C 16 [] [.int x5.1] (ct_X7_refuse L o q Z (-1 : Int32) x5 e5) kX7_refuse kvX7_refuse wl_X7_74 7 0 rfl rfl rfl rfl rfl rfl rfl (Nat.le_of_ble_eq_true rfl) ⟨Nat.le_of_ble_eq_true rfl, Nat.le_of_ble_eq_true rfl⟩ ⟨Nat.zero_le _, Nat.zero_le _⟩ dX7_learnerOf_13 rfl ?_
    exact g_iret (st := []) C E dX7_learnerOf_16 (by obtain rfl := Option.some.inj h; exact ⟨rfl, rfl⟩)
set_option maxHeartbeats 4000000 in
set_option maxRecDepth 100000 in
theorem ct_X7_grown (L : LL) (o : Nat → Nat) (q : Nat → Nat → Nat) (Z : Nat → OS) (v1 : Int32) (x : (Int32 × (Nat → OS))) (h : f_X7_grown Z v1 = some x) : Ct L yX7_grown cX7_grown 2 (some .int) (rmk 2 0 0 43) 0 0 [.ref (o 0), .int v1] (cells7 L o q Z) (Pv (some (.int x.1)) (cells7 L o q x.2)) := by
  refine g_enter (lv := [(0, .ref (o 0)), (1, .int v1)]) kX7_grown rfl rfl (Nat.le_of_ble_eq_true rfl) (fun Γ C E hNL => ?_)
  unfold f_X7_grown at h
  refine g_iload_n C 1 1 dX7_grown_0 rfl rfl ?_
  refine g_if_ge C 10 4 dX7_grown_1 (by decide) rfl (fun c => ?_) (fun c => ?_)
  · have h := ifT c h
    refine g_aload_n C 11 0 dX7_grown_10 rfl rfl ?_
    refine g_get (v := .ref (o 4)) C 14 7 0 3 hin_7 rfl rfl (by decide) wf_X7_25 rfl dX7_grown_11 rfl ?_
    refine g_iconst C 15 (0 : Int32) dX7_grown_14 rfl rfl ?_
    refine g_put (w' := (cells7 L o q (upA Z 4 (su (Z 4) 0 (0 : Int32))))) C 18 4 22 0 hin_4 tyX4 tyX4_ok nmX4 rfl rfl (by decide) wf_X7_92 rfl rfl rfl (Nat.le_of_ble_eq_true rfl) dX7_grown_15 rfl rfl ?_
    refine g_iload_n C 19 1 dX7_grown_18 rfl rfl ?_
    exact g_iret (st := []) C E dX7_grown_19 (by obtain rfl := Option.some.inj h; exact ⟨rfl, rfl⟩)
  · have h := ifF c h
    refine g_aload_n C 5 0 dX7_grown_4 rfl rfl ?_
    refine g_iload_n C 6 1 dX7_grown_5 rfl rfl ?_
    refine bnd h (fun x1 e1 h => ?_)
    refine g_callVs (w' := (cells7 L o q x1.2)) C 9 [] [.int x1.1] (ct_X7_refuse L o q Z v1 x1 e1) kX7_refuse kvX7_refuse wl_X7_74 7 0 rfl rfl rfl rfl rfl rfl rfl (Nat.le_of_ble_eq_true rfl) ⟨Nat.le_of_ble_eq_true rfl, Nat.le_of_ble_eq_true rfl⟩ ⟨Nat.zero_le _, Nat.zero_le _⟩ dX7_grown_6 rfl ?_
    exact g_iret (st := []) C E dX7_grown_9 (by obtain rfl := Option.some.inj h; exact ⟨rfl, rfl⟩)
set_option maxHeartbeats 4000000 in
set_option maxRecDepth 100000 in
theorem ct_X7_street (L : LL) (o : Nat → Nat) (q : Nat → Nat → Nat) (Z : Nat → OS) (v1 : Int32) (v2 : Int32) (v3 : Int32) (x : (Int32 × (Nat → OS))) (h : f_X7_street Z v1 v2 v3 = some x) : Ct L yX7_street cX7_street 4 (some .int) (rmk 3 0 0 64) 0 0 [.ref (o 0), .int v1, .int v2, .int v3] (cells7 L o q Z) (Pv (some (.int x.1)) (cells7 L o q x.2)) := by
  refine g_enter (lv := [(0, .ref (o 0)), (1, .int v1), (2, .int v2), (3, .int v3)]) kX7_street rfl rfl (Nat.le_of_ble_eq_true rfl) (fun Γ C E hNL => ?_)
  unfold f_X7_street at h
  refine g_aload_n C 1 0 dX7_street_0 rfl rfl ?_
  refine g_aload_n C 2 0 dX7_street_1 rfl rfl ?_
  refine g_get (v := .ref (o 1)) C 5 7 0 0 hin_7 rfl rfl (by decide) wf_X7_10 rfl dX7_street_2 rfl ?_
  refine g_iload_n C 6 1 dX7_street_5 rfl rfl ?_
  refine g_iload_n C 7 2 dX7_street_6 rfl rfl ?_
  refine g_iload_n C 8 3 dX7_street_7 rfl rfl ?_
  refine bnd h (fun x1 e1 h => ?_)
  refine g_callVw (w' := (cells7 L o q (upA Z 1 x1.2))) C 11 [.ref (o 0)] [.int x1.1, .ref (o 0)] (ct_X6_addStreet L (o 1) (q 1) (Z 1) v1 v2 v3 x1 e1) kX6_addStreet kvX6_addStreet wl_X7_129 6 0 rfl rfl rfl [1, 2, 3, 4, 5, 6, 7] rfl rfl rfl rfl rfl rfl rfl (Nat.le_of_ble_eq_true rfl) ⟨Nat.le_of_ble_eq_true rfl, Nat.le_of_ble_eq_true rfl⟩ ⟨Nat.zero_le _, Nat.zero_le _⟩ dX7_street_8 rfl ?_
  refine bnd h (fun x2 e2 h => ?_)
  refine g_callVs (w' := (cells7 L o q x2.2)) C 14 [] [.int x2.1] (ct_X7_grown L o q (upA Z 1 x1.2) x1.1 x2 e2) kX7_grown kvX7_grown wl_X7_133 7 0 rfl rfl rfl rfl rfl rfl rfl (Nat.le_of_ble_eq_true rfl) ⟨Nat.le_of_ble_eq_true rfl, Nat.le_of_ble_eq_true rfl⟩ ⟨Nat.zero_le _, Nat.zero_le _⟩ dX7_street_11 rfl ?_
  exact g_iret (st := []) C E dX7_street_14 (by obtain rfl := Option.some.inj h; exact ⟨rfl, rfl⟩)
set_option maxHeartbeats 4000000 in
set_option maxRecDepth 100000 in
theorem ct_X7_way (L : LL) (o : Nat → Nat) (q : Nat → Nat → Nat) (Z : Nat → OS) (v1 : Int32) (x : (Int32 × (Nat → OS))) (h : f_X7_way Z v1 = some x) : Ct L yX7_way cX7_way 2 (some .int) (rmk 3 0 0 64) 0 0 [.ref (o 0), .int v1] (cells7 L o q Z) (Pv (some (.int x.1)) (cells7 L o q x.2)) := by
  refine g_enter (lv := [(0, .ref (o 0)), (1, .int v1)]) kX7_way rfl rfl (Nat.le_of_ble_eq_true rfl) (fun Γ C E hNL => ?_)
  unfold f_X7_way at h
  refine g_aload_n C 1 0 dX7_way_0 rfl rfl ?_
  refine g_aload_n C 2 0 dX7_way_1 rfl rfl ?_
  refine g_get (v := .ref (o 1)) C 5 7 0 0 hin_7 rfl rfl (by decide) wf_X7_10 rfl dX7_way_2 rfl ?_
  refine g_iload_n C 6 1 dX7_way_5 rfl rfl ?_
  refine bnd h (fun x1 e1 h => ?_)
  refine g_callVw (w' := (cells7 L o q (upA Z 1 x1.2))) C 9 [.ref (o 0)] [.int x1.1, .ref (o 0)] (ct_X6_addWay L (o 1) (q 1) (Z 1) v1 x1 e1) kX6_addWay kvX6_addWay wl_X7_136 6 0 rfl rfl rfl [1, 2, 3, 4, 5, 6, 7] rfl rfl rfl rfl rfl rfl rfl (Nat.le_of_ble_eq_true rfl) ⟨Nat.le_of_ble_eq_true rfl, Nat.le_of_ble_eq_true rfl⟩ ⟨Nat.zero_le _, Nat.zero_le _⟩ dX7_way_6 rfl ?_
  refine bnd h (fun x2 e2 h => ?_)
  refine g_callVs (w' := (cells7 L o q x2.2)) C 12 [] [.int x2.1] (ct_X7_grown L o q (upA Z 1 x1.2) x1.1 x2 e2) kX7_grown kvX7_grown wl_X7_133 7 0 rfl rfl rfl rfl rfl rfl rfl (Nat.le_of_ble_eq_true rfl) ⟨Nat.le_of_ble_eq_true rfl, Nat.le_of_ble_eq_true rfl⟩ ⟨Nat.zero_le _, Nat.zero_le _⟩ dX7_way_9 rfl ?_
  exact g_iret (st := []) C E dX7_way_12 (by obtain rfl := Option.some.inj h; exact ⟨rfl, rfl⟩)
set_option maxHeartbeats 4000000 in
set_option maxRecDepth 100000 in
theorem ct_X7_learner (L : LL) (o : Nat → Nat) (q : Nat → Nat → Nat) (Z : Nat → OS) (v1 : Int32) (x : (Int32 × (Nat → OS))) (h : f_X7_learner Z v1 = some x) : Ct L yX7_learner cX7_learner 2 (some .int) (rmk 3 0 0 64) 0 0 [.ref (o 0), .int v1] (cells7 L o q Z) (Pv (some (.int x.1)) (cells7 L o q x.2)) := by
  refine g_enter (lv := [(0, .ref (o 0)), (1, .int v1)]) kX7_learner rfl rfl (Nat.le_of_ble_eq_true rfl) (fun Γ C E hNL => ?_)
  unfold f_X7_learner at h
  refine g_aload_n C 1 0 dX7_learner_0 rfl rfl ?_
  refine g_aload_n C 2 0 dX7_learner_1 rfl rfl ?_
  refine g_get (v := .ref (o 1)) C 5 7 0 0 hin_7 rfl rfl (by decide) wf_X7_10 rfl dX7_learner_2 rfl ?_
  refine g_iload_n C 6 1 dX7_learner_5 rfl rfl ?_
  refine bnd h (fun x1 e1 h => ?_)
  refine g_callVw (w' := (cells7 L o q (upA Z 1 x1.2))) C 9 [.ref (o 0)] [.int x1.1, .ref (o 0)] (ct_X6_addLearner L (o 1) (q 1) (Z 1) v1 x1 e1) kX6_addLearner kvX6_addLearner wl_X7_139 6 0 rfl rfl rfl [1, 2, 3, 4, 5, 6, 7] rfl rfl rfl rfl rfl rfl rfl (Nat.le_of_ble_eq_true rfl) ⟨Nat.le_of_ble_eq_true rfl, Nat.le_of_ble_eq_true rfl⟩ ⟨Nat.zero_le _, Nat.zero_le _⟩ dX7_learner_6 rfl ?_
  refine bnd h (fun x2 e2 h => ?_)
  refine g_callVs (w' := (cells7 L o q x2.2)) C 12 [] [.int x2.1] (ct_X7_grown L o q (upA Z 1 x1.2) x1.1 x2 e2) kX7_grown kvX7_grown wl_X7_133 7 0 rfl rfl rfl rfl rfl rfl rfl (Nat.le_of_ble_eq_true rfl) ⟨Nat.le_of_ble_eq_true rfl, Nat.le_of_ble_eq_true rfl⟩ ⟨Nat.zero_le _, Nat.zero_le _⟩ dX7_learner_9 rfl ?_
  exact g_iret (st := []) C E dX7_learner_12 (by obtain rfl := Option.some.inj h; exact ⟨rfl, rfl⟩)
set_option maxHeartbeats 4000000 in
set_option maxRecDepth 100000 in
theorem ct_X7_changed (L : LL) (o : Nat → Nat) (q : Nat → Nat → Nat) (Z : Nat → OS) (v1 : Int32) (x : (Int32 × (Nat → OS))) (h : f_X7_changed Z v1 = some x) : Ct L yX7_changed cX7_changed 2 (some .int) (rmk 2 0 0 43) 0 0 [.ref (o 0), .int v1] (cells7 L o q Z) (Pv (some (.int x.1)) (cells7 L o q x.2)) := by
  refine g_enter (lv := [(0, .ref (o 0)), (1, .int v1)]) kX7_changed rfl rfl (Nat.le_of_ble_eq_true rfl) (fun Γ C E hNL => ?_)
  unfold f_X7_changed at h
  refine g_iload_n C 1 1 dX7_changed_0 rfl rfl ?_
  refine g_if_ge C 10 4 dX7_changed_1 (by decide) rfl (fun c => ?_) (fun c => ?_)
  · have h := ifT c h
    refine g_aload_n C 11 0 dX7_changed_10 rfl rfl ?_
    refine g_get (v := .ref (o 4)) C 14 7 0 3 hin_7 rfl rfl (by decide) wf_X7_25 rfl dX7_changed_11 rfl ?_
    refine bnd h (fun x1 e1 h => ?_)
    refine g_callVw (w' := (cells7 L o q (upA Z 4 x1))) C 17 [] [] (ct_X4_keep L (o 4) (q 4) (Z 4) x1 e1) kX4_keep kvX4_keep wl_X7_351 4 0 rfl rfl rfl [22, 23] rfl rfl rfl rfl rfl rfl rfl (Nat.le_of_ble_eq_true rfl) ⟨Nat.le_of_ble_eq_true rfl, Nat.le_of_ble_eq_true rfl⟩ ⟨Nat.zero_le _, Nat.zero_le _⟩ dX7_changed_14 rfl ?_
    refine g_iload_n C 18 1 dX7_changed_17 rfl rfl ?_
    exact g_iret (st := []) C E dX7_changed_18 (by obtain rfl := Option.some.inj h; exact ⟨rfl, rfl⟩)
  · have h := ifF c h
    refine g_aload_n C 5 0 dX7_changed_4 rfl rfl ?_
    refine g_iload_n C 6 1 dX7_changed_5 rfl rfl ?_
    refine bnd h (fun x2 e2 h => ?_)
    refine g_callVs (w' := (cells7 L o q x2.2)) C 9 [] [.int x2.1] (ct_X7_refuse L o q Z v1 x2 e2) kX7_refuse kvX7_refuse wl_X7_74 7 0 rfl rfl rfl rfl rfl rfl rfl (Nat.le_of_ble_eq_true rfl) ⟨Nat.le_of_ble_eq_true rfl, Nat.le_of_ble_eq_true rfl⟩ ⟨Nat.zero_le _, Nat.zero_le _⟩ dX7_changed_6 rfl ?_
    exact g_iret (st := []) C E dX7_changed_9 (by obtain rfl := Option.some.inj h; exact ⟨rfl, rfl⟩)
set_option maxHeartbeats 4000000 in
set_option maxRecDepth 100000 in
theorem ct_X7_tests (L : LL) (o : Nat → Nat) (q : Nat → Nat → Nat) (Z : Nat → OS) (v1 : Int32) (v2 : Int32) (x : (Int32 × (Nat → OS))) (h : f_X7_tests Z v1 v2 = some x) : Ct L yX7_tests cX7_tests 3 (some .int) (rmk 5 0 0 118) 0 0 [.ref (o 0), .int v1, .int v2] (cells7 L o q Z) (Pv (some (.int x.1)) (cells7 L o q x.2)) := by
  refine g_enter (lv := [(0, .ref (o 0)), (1, .int v1), (2, .int v2)]) kX7_tests rfl rfl (Nat.le_of_ble_eq_true rfl) (fun Γ C E hNL => ?_)
  unfold f_X7_tests at h
  refine g_aload_n C 1 0 dX7_tests_0 rfl rfl ?_
  refine g_get (v := .ref (o 4)) C 4 7 0 3 hin_7 rfl rfl (by decide) wf_X7_25 rfl dX7_tests_1 rfl ?_
  refine g_aload_n C 5 0 dX7_tests_4 rfl rfl ?_
  refine g_get (v := .ref (o 1)) C 8 7 0 0 hin_7 rfl rfl (by decide) wf_X7_10 rfl dX7_tests_5 rfl ?_
  refine bnd h (fun x1 e1 h => ?_)
  refine g_callVw (w' := (cells7 L o q (upA Z 4 x1))) C 11 [] [] (ct_X4_hold L (o 4) (q 4) (o 1) (q 1) (Z 4) (Z 1) x1 e1) kX4_hold kvX4_hold wl_X7_142 4 0 rfl rfl rfl [22, 23, 1, 2, 3, 4, 5, 6, 7] rfl rfl rfl rfl rfl rfl rfl (Nat.le_of_ble_eq_true rfl) ⟨Nat.le_of_ble_eq_true rfl, Nat.le_of_ble_eq_true rfl⟩ ⟨Nat.zero_le _, Nat.zero_le _⟩ dX7_tests_8 rfl ?_
  refine g_aload_n C 12 0 dX7_tests_11 rfl rfl ?_
  refine g_aload_n C 13 0 dX7_tests_12 rfl rfl ?_
  refine g_get (v := .ref (o 1)) C 16 7 0 0 hin_7 rfl rfl (by decide) wf_X7_10 rfl dX7_tests_13 rfl ?_
  refine g_iload_n C 17 1 dX7_tests_16 rfl rfl ?_
  refine g_iload_n C 18 2 dX7_tests_17 rfl rfl ?_
  refine bnd h (fun x2 e2 h => ?_)
  refine g_callVw (w' := (cells7 L o q (upA (upA Z 1 x2.2) 4 x1))) C 21 [.ref (o 0)] [.int x2.1, .ref (o 0)] (ct_X6_test L (o 1) (q 1) (Z 1) v1 v2 x2 e2) kX6_test kvX6_test wl_X7_145 6 0 rfl rfl rfl [1, 2, 3, 4, 5, 6, 7] rfl rfl rfl rfl rfl rfl rfl (Nat.le_of_ble_eq_true rfl) ⟨Nat.le_of_ble_eq_true rfl, Nat.le_of_ble_eq_true rfl⟩ ⟨Nat.zero_le _, Nat.zero_le _⟩ dX7_tests_18 rfl ?_
  refine bnd h (fun x3 e3 h => ?_)
  refine g_callVs (w' := (cells7 L o q x3.2)) C 24 [] [.int x3.1] (ct_X7_changed L o q (upA (upA Z 1 x2.2) 4 x1) x2.1 x3 e3) kX7_changed kvX7_changed wl_X7_148 7 0 rfl rfl rfl rfl rfl rfl rfl (Nat.le_of_ble_eq_true rfl) ⟨Nat.le_of_ble_eq_true rfl, Nat.le_of_ble_eq_true rfl⟩ ⟨Nat.zero_le _, Nat.zero_le _⟩ dX7_tests_21 rfl ?_
  exact g_iret (st := []) C E dX7_tests_24 (by obtain rfl := Option.some.inj h; exact ⟨rfl, rfl⟩)
set_option maxHeartbeats 4000000 in
set_option maxRecDepth 100000 in
theorem ct_X7_knows (L : LL) (o : Nat → Nat) (q : Nat → Nat → Nat) (Z : Nat → OS) (v1 : Int32) (v2 : Int32) (x : (Int32 × (Nat → OS))) (h : f_X7_knows Z v1 v2 = some x) : Ct L yX7_knows cX7_knows 3 (some .int) (rmk 3 0 0 64) 0 0 [.ref (o 0), .int v1, .int v2] (cells7 L o q Z) (Pv (some (.int x.1)) (cells7 L o q x.2)) := by
  refine g_enter (lv := [(0, .ref (o 0)), (1, .int v1), (2, .int v2)]) kX7_knows rfl rfl (Nat.le_of_ble_eq_true rfl) (fun Γ C E hNL => ?_)
  unfold f_X7_knows at h
  refine g_aload_n C 1 0 dX7_knows_0 rfl rfl ?_
  refine g_get (v := .ref (o 4)) C 4 7 0 3 hin_7 rfl rfl (by decide) wf_X7_25 rfl dX7_knows_1 rfl ?_
  refine g_aload_n C 5 0 dX7_knows_4 rfl rfl ?_
  refine g_get (v := .ref (o 1)) C 8 7 0 0 hin_7 rfl rfl (by decide) wf_X7_10 rfl dX7_knows_5 rfl ?_
  refine bnd h (fun x1 e1 h => ?_)
  refine g_callVw (w' := (cells7 L o q (upA Z 4 x1))) C 11 [] [] (ct_X4_hold L (o 4) (q 4) (o 1) (q 1) (Z 4) (Z 1) x1 e1) kX4_hold kvX4_hold wl_X7_142 4 0 rfl rfl rfl [22, 23, 1, 2, 3, 4, 5, 6, 7] rfl rfl rfl rfl rfl rfl rfl (Nat.le_of_ble_eq_true rfl) ⟨Nat.le_of_ble_eq_true rfl, Nat.le_of_ble_eq_true rfl⟩ ⟨Nat.zero_le _, Nat.zero_le _⟩ dX7_knows_8 rfl ?_
  refine g_aload_n C 12 0 dX7_knows_11 rfl rfl ?_
  refine g_aload_n C 13 0 dX7_knows_12 rfl rfl ?_
  refine g_get (v := .ref (o 1)) C 16 7 0 0 hin_7 rfl rfl (by decide) wf_X7_10 rfl dX7_knows_13 rfl ?_
  refine g_iload_n C 17 1 dX7_knows_16 rfl rfl ?_
  refine g_iload_n C 18 2 dX7_knows_17 rfl rfl ?_
  refine bnd h (fun x2 e2 h => ?_)
  refine g_callVw (w' := (cells7 L o q (upA (upA Z 1 x2.2) 4 x1))) C 21 [.ref (o 0)] [.int x2.1, .ref (o 0)] (ct_X6_turnKnown L (o 1) (q 1) (Z 1) v1 v2 x2 e2) kX6_turnKnown kvX6_turnKnown wl_X7_151 6 0 rfl rfl rfl [1, 2, 3, 4, 5, 6, 7] rfl rfl rfl rfl rfl rfl rfl (Nat.le_of_ble_eq_true rfl) ⟨Nat.le_of_ble_eq_true rfl, Nat.le_of_ble_eq_true rfl⟩ ⟨Nat.zero_le _, Nat.zero_le _⟩ dX7_knows_18 rfl ?_
  refine bnd h (fun x3 e3 h => ?_)
  refine g_callVs (w' := (cells7 L o q x3.2)) C 24 [] [.int x3.1] (ct_X7_changed L o q (upA (upA Z 1 x2.2) 4 x1) x2.1 x3 e3) kX7_changed kvX7_changed wl_X7_148 7 0 rfl rfl rfl rfl rfl rfl rfl (Nat.le_of_ble_eq_true rfl) ⟨Nat.le_of_ble_eq_true rfl, Nat.le_of_ble_eq_true rfl⟩ ⟨Nat.zero_le _, Nat.zero_le _⟩ dX7_knows_21 rfl ?_
  exact g_iret (st := []) C E dX7_knows_24 (by obtain rfl := Option.some.inj h; exact ⟨rfl, rfl⟩)
set_option maxHeartbeats 4000000 in
set_option maxRecDepth 100000 in
theorem ct_X7_sets (L : LL) (o : Nat → Nat) (q : Nat → Nat → Nat) (Z : Nat → OS) (v1 : Int32) (v2 : Int32) (x : (Int32 × (Nat → OS))) (h : f_X7_sets Z v1 v2 = some x) : Ct L yX7_sets cX7_sets 3 (some .int) (rmk 3 0 0 64) 0 0 [.ref (o 0), .int v1, .int v2] (cells7 L o q Z) (Pv (some (.int x.1)) (cells7 L o q x.2)) := by
  refine g_enter (lv := [(0, .ref (o 0)), (1, .int v1), (2, .int v2)]) kX7_sets rfl rfl (Nat.le_of_ble_eq_true rfl) (fun Γ C E hNL => ?_)
  unfold f_X7_sets at h
  refine g_aload_n C 1 0 dX7_sets_0 rfl rfl ?_
  refine g_get (v := .ref (o 4)) C 4 7 0 3 hin_7 rfl rfl (by decide) wf_X7_25 rfl dX7_sets_1 rfl ?_
  refine g_aload_n C 5 0 dX7_sets_4 rfl rfl ?_
  refine g_get (v := .ref (o 1)) C 8 7 0 0 hin_7 rfl rfl (by decide) wf_X7_10 rfl dX7_sets_5 rfl ?_
  refine bnd h (fun x1 e1 h => ?_)
  refine g_callVw (w' := (cells7 L o q (upA Z 4 x1))) C 11 [] [] (ct_X4_hold L (o 4) (q 4) (o 1) (q 1) (Z 4) (Z 1) x1 e1) kX4_hold kvX4_hold wl_X7_142 4 0 rfl rfl rfl [22, 23, 1, 2, 3, 4, 5, 6, 7] rfl rfl rfl rfl rfl rfl rfl (Nat.le_of_ble_eq_true rfl) ⟨Nat.le_of_ble_eq_true rfl, Nat.le_of_ble_eq_true rfl⟩ ⟨Nat.zero_le _, Nat.zero_le _⟩ dX7_sets_8 rfl ?_
  refine g_aload_n C 12 0 dX7_sets_11 rfl rfl ?_
  refine g_aload_n C 13 0 dX7_sets_12 rfl rfl ?_
  refine g_get (v := .ref (o 1)) C 16 7 0 0 hin_7 rfl rfl (by decide) wf_X7_10 rfl dX7_sets_13 rfl ?_
  refine g_iload_n C 17 1 dX7_sets_16 rfl rfl ?_
  refine g_iload_n C 18 2 dX7_sets_17 rfl rfl ?_
  refine bnd h (fun x2 e2 h => ?_)
  refine g_callVw (w' := (cells7 L o q (upA (upA Z 1 x2.2) 4 x1))) C 21 [.ref (o 0)] [.int x2.1, .ref (o 0)] (ct_X6_change L (o 1) (q 1) (Z 1) v1 v2 x2 e2) kX6_change kvX6_change wl_X7_154 6 0 rfl rfl rfl [1, 2, 3, 4, 5, 6, 7] rfl rfl rfl rfl rfl rfl rfl (Nat.le_of_ble_eq_true rfl) ⟨Nat.le_of_ble_eq_true rfl, Nat.le_of_ble_eq_true rfl⟩ ⟨Nat.zero_le _, Nat.zero_le _⟩ dX7_sets_18 rfl ?_
  refine bnd h (fun x3 e3 h => ?_)
  refine g_callVs (w' := (cells7 L o q x3.2)) C 24 [] [.int x3.1] (ct_X7_changed L o q (upA (upA Z 1 x2.2) 4 x1) x2.1 x3 e3) kX7_changed kvX7_changed wl_X7_148 7 0 rfl rfl rfl rfl rfl rfl rfl (Nat.le_of_ble_eq_true rfl) ⟨Nat.le_of_ble_eq_true rfl, Nat.le_of_ble_eq_true rfl⟩ ⟨Nat.zero_le _, Nat.zero_le _⟩ dX7_sets_21 rfl ?_
  exact g_iret (st := []) C E dX7_sets_24 (by obtain rfl := Option.some.inj h; exact ⟨rfl, rfl⟩)
set_option maxHeartbeats 4000000 in
set_option maxRecDepth 100000 in
theorem ct_X7_day (L : LL) (o : Nat → Nat) (q : Nat → Nat → Nat) (Z : Nat → OS) (x : (Int32 × (Nat → OS))) (h : f_X7_day Z = some x) : Ct L yX7_day cX7_day 1 (some .int) (rmk 3 0 0 64) 0 0 [.ref (o 0)] (cells7 L o q Z) (Pv (some (.int x.1)) (cells7 L o q x.2)) := by
  refine g_enter (lv := [(0, .ref (o 0))]) kX7_day rfl rfl (Nat.le_of_ble_eq_true rfl) (fun Γ C E hNL => ?_)
  unfold f_X7_day at h
  refine g_aload_n C 1 0 dX7_day_0 rfl rfl ?_
  refine g_get (v := .ref (o 4)) C 4 7 0 3 hin_7 rfl rfl (by decide) wf_X7_25 rfl dX7_day_1 rfl ?_
  refine g_aload_n C 5 0 dX7_day_4 rfl rfl ?_
  refine g_get (v := .ref (o 1)) C 8 7 0 0 hin_7 rfl rfl (by decide) wf_X7_10 rfl dX7_day_5 rfl ?_
  refine bnd h (fun x1 e1 h => ?_)
  refine g_callVw (w' := (cells7 L o q (upA Z 4 x1))) C 11 [] [] (ct_X4_hold L (o 4) (q 4) (o 1) (q 1) (Z 4) (Z 1) x1 e1) kX4_hold kvX4_hold wl_X7_142 4 0 rfl rfl rfl [22, 23, 1, 2, 3, 4, 5, 6, 7] rfl rfl rfl rfl rfl rfl rfl (Nat.le_of_ble_eq_true rfl) ⟨Nat.le_of_ble_eq_true rfl, Nat.le_of_ble_eq_true rfl⟩ ⟨Nat.zero_le _, Nat.zero_le _⟩ dX7_day_8 rfl ?_
  refine g_aload_n C 12 0 dX7_day_11 rfl rfl ?_
  refine g_aload_n C 13 0 dX7_day_12 rfl rfl ?_
  refine g_get (v := .ref (o 1)) C 16 7 0 0 hin_7 rfl rfl (by decide) wf_X7_10 rfl dX7_day_13 rfl ?_
  refine bnd h (fun x2 e2 h => ?_)
  refine g_callVw (w' := (cells7 L o q (upA (upA Z 1 x2.2) 4 x1))) C 19 [.ref (o 0)] [.int x2.1, .ref (o 0)] (ct_X6_nextDay L (o 1) (q 1) (Z 1) x2 e2) kX6_nextDay kvX6_nextDay wl_X7_157 6 0 rfl rfl rfl [1, 2, 3, 4, 5, 6, 7] rfl rfl rfl rfl rfl rfl rfl (Nat.le_of_ble_eq_true rfl) ⟨Nat.le_of_ble_eq_true rfl, Nat.le_of_ble_eq_true rfl⟩ ⟨Nat.zero_le _, Nat.zero_le _⟩ dX7_day_16 rfl ?_
  refine bnd h (fun x3 e3 h => ?_)
  refine g_callVs (w' := (cells7 L o q x3.2)) C 22 [] [.int x3.1] (ct_X7_changed L o q (upA (upA Z 1 x2.2) 4 x1) x2.1 x3 e3) kX7_changed kvX7_changed wl_X7_148 7 0 rfl rfl rfl rfl rfl rfl rfl (Nat.le_of_ble_eq_true rfl) ⟨Nat.le_of_ble_eq_true rfl, Nat.le_of_ble_eq_true rfl⟩ ⟨Nat.zero_le _, Nat.zero_le _⟩ dX7_day_19 rfl ?_
  exact g_iret (st := []) C E dX7_day_22 (by obtain rfl := Option.some.inj h; exact ⟨rfl, rfl⟩)
set_option maxHeartbeats 4000000 in
set_option maxRecDepth 100000 in
theorem ct_X7_back (L : LL) (o : Nat → Nat) (q : Nat → Nat → Nat) (Z : Nat → OS) (x : (Int32 × (Nat → OS))) (h : f_X7_back Z = some x) : Ct L yX7_back cX7_back 1 (some .int) (rmk 2 0 0 45) 0 0 [.ref (o 0)] (cells7 L o q Z) (Pv (some (.int x.1)) (cells7 L o q x.2)) := by
  refine g_enter (lv := [(0, .ref (o 0))]) kX7_back rfl rfl (Nat.le_of_ble_eq_true rfl) (fun Γ C E hNL => ?_)
  unfold f_X7_back at h
  refine g_aload_n C 1 0 dX7_back_0 rfl rfl ?_
  refine g_get (v := .ref (o 4)) C 4 7 0 3 hin_7 rfl rfl (by decide) wf_X7_25 rfl dX7_back_1 rfl ?_
  refine g_get (v := .int ((Z 4).1 0)) C 7 4 22 0 hin_4 rfl rfl (by decide) wf_X7_92 rfl dX7_back_4 rfl ?_
  refine g_iconst C 8 (1 : Int32) dX7_back_7 rfl rfl ?_
  refine g_icmp_ge C 18 11 dX7_back_8 (by decide) rfl (fun c => ?_) (fun c => ?_)
  · have h := ifT c h
    refine g_aload_n C 19 0 dX7_back_18 rfl rfl ?_
    refine g_get (v := .ref (o 4)) C 22 7 0 3 hin_7 rfl rfl (by decide) wf_X7_25 rfl dX7_back_19 rfl ?_
    refine g_aload_n C 23 0 dX7_back_22 rfl rfl ?_
    refine g_get (v := .ref (o 1)) C 26 7 0 0 hin_7 rfl rfl (by decide) wf_X7_10 rfl dX7_back_23 rfl ?_
    refine bnd h (fun x1 e1 h => ?_)
    refine g_callVw (w' := (cells7 L o q (upA (upA Z 1 x1.2.2) 4 x1.2.1))) C 29 [] [.int x1.1] (ct_X4_takeBack L (o 4) (q 4) (o 1) (q 1) (Z 4) (Z 1) x1 e1) kX4_takeBack kvX4_takeBack wl_X7_161 4 0 rfl rfl rfl [22, 23, 1, 2, 3, 4, 5, 6, 7] rfl rfl rfl rfl rfl rfl rfl (Nat.le_of_ble_eq_true rfl) ⟨Nat.le_of_ble_eq_true rfl, Nat.le_of_ble_eq_true rfl⟩ ⟨Nat.zero_le _, Nat.zero_le _⟩ dX7_back_26 rfl ?_
    exact g_iret (st := []) C E dX7_back_29 (by obtain rfl := Option.some.inj h; exact ⟨rfl, rfl⟩)
  · have h := ifF c h
    refine g_aload_n C 12 0 dX7_back_11 rfl rfl ?_
    refine g_bipush C 14 (-3 : Int32) dX7_back_12 rfl rfl ?_
    refine bnd h (fun x2 e2 h => ?_)
    refine g_callVs (w' := (cells7 L o q x2.2)) C 17 [] [.int x2.1] (ct_X7_refuse L o q Z (-3 : Int32) x2 e2) kX7_refuse kvX7_refuse wl_X7_74 7 0 rfl rfl rfl rfl rfl rfl rfl (Nat.le_of_ble_eq_true rfl) ⟨Nat.le_of_ble_eq_true rfl, Nat.le_of_ble_eq_true rfl⟩ ⟨Nat.zero_le _, Nat.zero_le _⟩ dX7_back_14 rfl ?_
    exact g_iret (st := []) C E dX7_back_17 (by obtain rfl := Option.some.inj h; exact ⟨rfl, rfl⟩)
set_option maxHeartbeats 4000000 in
set_option maxRecDepth 100000 in
theorem ct_X7_wayOf (L : LL) (o : Nat → Nat) (q : Nat → Nat → Nat) (Z : Nat → OS) (v1 : Int32) (v2 : Int32) (v3 : Int32) (x : (Int32 × (Nat → OS))) (h : f_X7_wayOf Z v1 v2 v3 = some x) : Ct L yX7_wayOf cX7_wayOf 5 (some .int) (rmk 3 0 0 68) 0 0 [.ref (o 0), .int v1, .int v2, .int v3] (cells7 L o q Z) (Pv (some (.int x.1)) (cells7 L o q x.2)) := by
  refine g_enter (lv := [(0, .ref (o 0)), (1, .int v1), (2, .int v2), (3, .int v3)]) kX7_wayOf rfl rfl (Nat.le_of_ble_eq_true rfl) (fun Γ C E hNL => ?_)
  unfold f_X7_wayOf at h
  refine g_aload_n C 1 0 dX7_wayOf_0 rfl rfl ?_
  refine g_get (v := .ref (o 1)) C 4 7 0 0 hin_7 rfl rfl (by decide) wf_X7_10 rfl dX7_wayOf_1 rfl ?_
  refine g_iload_n C 5 1 dX7_wayOf_4 rfl rfl ?_
  refine bnd h (fun x1 e1 h => ?_)
  refine g_callVr C 8 [] [.int x1] (ct_X6_hasWay L (o 1) (q 1) (Z 1) v1 x1 e1) kX6_hasWay kvX6_hasWay wl_X7_164 6 0 rfl rfl rfl [1, 2, 3, 4, 5, 6, 7] rfl rfl rfl rfl rfl (Nat.le_of_ble_eq_true rfl) ⟨Nat.le_of_ble_eq_true rfl, Nat.le_of_ble_eq_true rfl⟩ ⟨Nat.zero_le _, Nat.zero_le _⟩ dX7_wayOf_5 rfl ?_
  refine g_if_eq C 18 11 dX7_wayOf_8 (by decide) rfl (fun c => ?_) (fun c => ?_)
  · have h := ifT c h
    refine g_aload_n C 19 0 dX7_wayOf_18 rfl rfl ?_
    refine g_iconst C 20 (-1 : Int32) dX7_wayOf_19 rfl rfl ?_
    refine bnd h (fun x2 e2 h => ?_)
    refine g_callVs (w' := (cells7 L o q x2.2)) C 23 [] [.int x2.1] (ct_X7_refuse L o q Z (-1 : Int32) x2 e2) kX7_refuse kvX7_refuse wl_X7_74 7 0 rfl rfl rfl rfl rfl rfl rfl (Nat.le_of_ble_eq_true rfl) ⟨Nat.le_of_ble_eq_true rfl, Nat.le_of_ble_eq_true rfl⟩ ⟨Nat.zero_le _, Nat.zero_le _⟩ dX7_wayOf_20 rfl ?_
    exact g_iret (st := []) C E dX7_wayOf_23 (by obtain rfl := Option.some.inj h; exact ⟨rfl, rfl⟩)
  · have h := ifF c h
    refine g_iload_n C 12 2 dX7_wayOf_11 rfl rfl ?_
    refine bnd h (fun x3 e3 h => ?_)
    refine g_callSr C 15 [] [.int x3] (ct_X7_isHour L v2 x3 e3) kX7_isHour kvX7_isHour wl_X7_167 [] rfl rfl rfl rfl rfl (Nat.le_of_ble_eq_true rfl) ⟨Nat.le_of_ble_eq_true rfl, Nat.le_of_ble_eq_true rfl⟩ ⟨Nat.zero_le _, Nat.zero_le _⟩ dX7_wayOf_12 rfl ?_
    refine g_if_ne C 24 18 dX7_wayOf_15 (by decide) rfl (fun c => ?_) (fun c => ?_)
    · have h := ifF c h
      refine g_aload_n C 25 0 dX7_wayOf_24 rfl rfl ?_
      refine g_get (v := .ref (o 1)) C 28 7 0 0 hin_7 rfl rfl (by decide) wf_X7_10 rfl dX7_wayOf_25 rfl ?_
      refine g_get (v := .ref ((q 1) 9)) C 31 6 1 9 hin_6 rfl rfl (by decide) wf_X7_170 rfl dX7_wayOf_28 rfl ?_
      refine g_iload_n C 32 1 dX7_wayOf_31 rfl rfl ?_
      refine bnd h (fun x4 e4 h => ?_)
      refine g_callSr C 35 [] [.int x4] (ct_X7_at L ((q 1) 9) 6 ((Z 1).2 9) v1 x4 e4) kX7_at kvX7_at wl_X7_100 [5] rfl rfl rfl rfl rfl (Nat.le_of_ble_eq_true rfl) ⟨Nat.le_of_ble_eq_true rfl, Nat.le_of_ble_eq_true rfl⟩ ⟨Nat.zero_le _, Nat.zero_le _⟩ dX7_wayOf_32 rfl ?_
      refine g_istore C 37 4 [(4, .int x4), (0, .ref (o 0)), (1, .int v1), (2, .int v2), (3, .int v3)] dX7_wayOf_35 rfl 5 hNL (by decide) rfl ?_
      refine g_iload_n C 38 4 dX7_wayOf_37 rfl rfl ?_
      by_cases c0 : v3 = (0 : Int32)
      · have h := ifT c0 h
        refine g_tabIn C 68 (30) dX7_wayOf_38 (by rw [c0]; decide) (by rw [c0]; decide) (by rw [c0]; rfl) (by decide) ?_
        refine g_iload C 70 0 dX7_wayOf_68 rfl rfl ?_
        exact g_iret (st := []) C E dX7_wayOf_70 (by obtain rfl := Option.some.inj h; exact ⟨rfl, rfl⟩)
      have h := ifF c0 h
      by_cases c1 : v3 = (1 : Int32)
      · have h := ifT c1 h
        refine g_tabIn C 71 (33) dX7_wayOf_38 (by rw [c1]; decide) (by rw [c1]; decide) (by rw [c1]; rfl) (by decide) ?_
        refine g_aload_n C 72 1 dX7_wayOf_71 rfl rfl ?_
        refine g_get (v := .ref (o 1)) C 75 7 0 0 hin_7 rfl rfl (by decide) wf_X7_10 rfl dX7_wayOf_72 rfl ?_
        refine g_iload C 77 0 dX7_wayOf_75 rfl rfl ?_
        refine bnd h (fun x5 e5 h => ?_)
        refine g_callVr C 80 [] [.int x5] (ct_X6_minutesOn L (o 1) (q 1) (Z 1) x4 x5 e5) kX6_minutesOn kvX6_minutesOn wl_X7_173 6 0 rfl rfl rfl [1, 2, 3, 4, 5, 6, 7] rfl rfl rfl rfl rfl (Nat.le_of_ble_eq_true rfl) ⟨Nat.le_of_ble_eq_true rfl, Nat.le_of_ble_eq_true rfl⟩ ⟨Nat.zero_le _, Nat.zero_le _⟩ dX7_wayOf_77 rfl ?_
        exact g_iret (st := []) C E dX7_wayOf_80 (by obtain rfl := Option.some.inj h; exact ⟨rfl, rfl⟩)
      have h := ifF c1 h
      by_cases c2 : v3 = (2 : Int32)
      · have h := ifT c2 h
        refine g_tabIn C 81 (43) dX7_wayOf_38 (by rw [c2]; decide) (by rw [c2]; decide) (by rw [c2]; rfl) (by decide) ?_
        refine g_aload_n C 82 1 dX7_wayOf_81 rfl rfl ?_
        refine g_get (v := .ref (o 1)) C 85 7 0 0 hin_7 rfl rfl (by decide) wf_X7_10 rfl dX7_wayOf_82 rfl ?_
        refine g_iload C 87 0 dX7_wayOf_85 rfl rfl ?_
        refine g_iload_n C 88 3 dX7_wayOf_87 rfl rfl ?_
        refine bnd h (fun x6 e6 h => ?_)
        refine g_callVr C 91 [] [.int x6] (ct_X6_hardOn L (o 1) (q 1) (Z 1) x4 v2 x6 e6) kX6_hardOn kvX6_hardOn wl_X7_176 6 0 rfl rfl rfl [1, 2, 3, 4, 5, 6, 7] rfl rfl rfl rfl rfl (Nat.le_of_ble_eq_true rfl) ⟨Nat.le_of_ble_eq_true rfl, Nat.le_of_ble_eq_true rfl⟩ ⟨Nat.zero_le _, Nat.zero_le _⟩ dX7_wayOf_88 rfl ?_
        exact g_iret (st := []) C E dX7_wayOf_91 (by obtain rfl := Option.some.inj h; exact ⟨rfl, rfl⟩)
      have h := ifF c2 h
      by_cases c3 : v3 = (3 : Int32)
      · have h := ifT c3 h
        refine g_tabIn C 92 (54) dX7_wayOf_38 (by rw [c3]; decide) (by rw [c3]; decide) (by rw [c3]; rfl) (by decide) ?_
        refine g_aload_n C 93 1 dX7_wayOf_92 rfl rfl ?_
        refine g_get (v := .ref (o 1)) C 96 7 0 0 hin_7 rfl rfl (by decide) wf_X7_10 rfl dX7_wayOf_93 rfl ?_
        refine g_iload C 98 0 dX7_wayOf_96 rfl rfl ?_
        refine bnd h (fun x7 e7 h => ?_)
        refine g_callVr C 101 [] [.int x7] (ct_X6_kindsOn L (o 1) (q 1) (Z 1) x4 x7 e7) kX6_kindsOn kvX6_kindsOn wl_X7_179 6 0 rfl rfl rfl [1, 2, 3, 4, 5, 6, 7] rfl rfl rfl rfl rfl (Nat.le_of_ble_eq_true rfl) ⟨Nat.le_of_ble_eq_true rfl, Nat.le_of_ble_eq_true rfl⟩ ⟨Nat.zero_le _, Nat.zero_le _⟩ dX7_wayOf_98 rfl ?_
        exact g_iret (st := []) C E dX7_wayOf_101 (by obtain rfl := Option.some.inj h; exact ⟨rfl, rfl⟩)
      have h := ifF c3 h
      have t0 := ne_toInt c0 (show ((0 : Int32) : Int32).toInt = 0 by decide +kernel)
      have t1 := ne_toInt c1 (show ((1 : Int32) : Int32).toInt = 1 by decide +kernel)
      have t2 := ne_toInt c2 (show ((2 : Int32) : Int32).toInt = 2 by decide +kernel)
      have t3 := ne_toInt c3 (show ((3 : Int32) : Int32).toInt = 3 by decide +kernel)
      by_cases cr : (v3).toInt < 0 ∨ 3 < (v3).toInt
      · refine g_tabOut C 102 dX7_wayOf_38 cr (by decide) ?_
        refine g_aload_n C 103 1 dX7_wayOf_102 rfl rfl ?_
        refine g_bipush C 105 (-2 : Int32) dX7_wayOf_103 rfl rfl ?_
        refine bnd h (fun x8 e8 h => ?_)
        refine g_callVs (w' := (cells7 L o q x8.2)) C 108 [] [.int x8.1] (ct_X7_refuse L o q Z (-2 : Int32) x8 e8) kX7_refuse kvX7_refuse wl_X7_74 7 0 rfl rfl rfl rfl rfl rfl rfl (Nat.le_of_ble_eq_true rfl) ⟨Nat.le_of_ble_eq_true rfl, Nat.le_of_ble_eq_true rfl⟩ ⟨Nat.zero_le _, Nat.zero_le _⟩ dX7_wayOf_105 rfl ?_
        exact g_iret (st := []) C E dX7_wayOf_108 (by obtain rfl := Option.some.inj h; exact ⟨rfl, rfl⟩)
      · exfalso; omega
    · have h := ifT c h
      refine g_aload_n C 19 0 dX7_wayOf_18 rfl rfl ?_
      refine g_iconst C 20 (-1 : Int32) dX7_wayOf_19 rfl rfl ?_
      refine bnd h (fun x9 e9 h => ?_)
      refine g_callVs (w' := (cells7 L o q x9.2)) C 23 [] [.int x9.1] (ct_X7_refuse L o q Z (-1 : Int32) x9 e9) kX7_refuse kvX7_refuse wl_X7_74 7 0 rfl rfl rfl rfl rfl rfl rfl (Nat.le_of_ble_eq_true rfl) ⟨Nat.le_of_ble_eq_true rfl, Nat.le_of_ble_eq_true rfl⟩ ⟨Nat.zero_le _, Nat.zero_le _⟩ dX7_wayOf_20 rfl ?_
      exact g_iret (st := []) C E dX7_wayOf_23 (by obtain rfl := Option.some.inj h; exact ⟨rfl, rfl⟩)
set_option maxHeartbeats 4000000 in
set_option maxRecDepth 100000 in
theorem ct_X7_faults (L : LL) (o : Nat → Nat) (q : Nat → Nat → Nat) (Z : Nat → OS) (v1 : Int32) (v2 : Int32) (v3 : Int32) (v4 : Int32) (x : (Int32 × (Nat → OS))) (h : f_X7_faults Z v1 v2 v3 v4 = some x) : Ct L yX7_faults cX7_faults 5 (some .int) (rmk 4 0 0 96) 0 0 [.ref (o 0), .int v1, .int v2, .int v3, .int v4] (cells7 L o q Z) (Pv (some (.int x.1)) (cells7 L o q x.2)) := by
  refine g_enter (lv := [(0, .ref (o 0)), (1, .int v1), (2, .int v2), (3, .int v3), (4, .int v4)]) kX7_faults rfl rfl (Nat.le_of_ble_eq_true rfl) (fun Γ C E hNL => ?_)
  unfold f_X7_faults at h
  refine g_aload_n C 1 0 dX7_faults_0 rfl rfl ?_
  refine g_get (v := .ref (o 1)) C 4 7 0 0 hin_7 rfl rfl (by decide) wf_X7_10 rfl dX7_faults_1 rfl ?_
  refine g_iload_n C 5 1 dX7_faults_4 rfl rfl ?_
  refine bnd h (fun x1 e1 h => ?_)
  refine g_callVr C 8 [] [.int x1] (ct_X6_hasLearner L (o 1) (q 1) (Z 1) v1 x1 e1) kX6_hasLearner kvX6_hasLearner wl_X7_120 6 0 rfl rfl rfl [1, 2, 3, 4, 5, 6, 7] rfl rfl rfl rfl rfl (Nat.le_of_ble_eq_true rfl) ⟨Nat.le_of_ble_eq_true rfl, Nat.le_of_ble_eq_true rfl⟩ ⟨Nat.zero_le _, Nat.zero_le _⟩ dX7_faults_5 rfl ?_
  refine g_if_eq C 29 11 dX7_faults_8 (by decide) rfl (fun c => ?_) (fun c => ?_)
  · have h := ifT c h
    refine g_aload_n C 30 0 dX7_faults_29 rfl rfl ?_
    refine g_iconst C 31 (-1 : Int32) dX7_faults_30 rfl rfl ?_
    refine bnd h (fun x2 e2 h => ?_)
    refine g_callVs (w' := (cells7 L o q x2.2)) C 34 [] [.int x2.1] (ct_X7_refuse L o q Z (-1 : Int32) x2 e2) kX7_refuse kvX7_refuse wl_X7_74 7 0 rfl rfl rfl rfl rfl rfl rfl (Nat.le_of_ble_eq_true rfl) ⟨Nat.le_of_ble_eq_true rfl, Nat.le_of_ble_eq_true rfl⟩ ⟨Nat.zero_le _, Nat.zero_le _⟩ dX7_faults_31 rfl ?_
    exact g_iret (st := []) C E dX7_faults_34 (by obtain rfl := Option.some.inj h; exact ⟨rfl, rfl⟩)
  · have h := ifF c h
    refine g_aload_n C 12 0 dX7_faults_11 rfl rfl ?_
    refine g_get (v := .ref (o 1)) C 15 7 0 0 hin_7 rfl rfl (by decide) wf_X7_10 rfl dX7_faults_12 rfl ?_
    refine g_iload_n C 16 2 dX7_faults_15 rfl rfl ?_
    refine bnd h (fun x3 e3 h => ?_)
    refine g_callVr C 19 [] [.int x3] (ct_X6_hasWay L (o 1) (q 1) (Z 1) v2 x3 e3) kX6_hasWay kvX6_hasWay wl_X7_164 6 0 rfl rfl rfl [1, 2, 3, 4, 5, 6, 7] rfl rfl rfl rfl rfl (Nat.le_of_ble_eq_true rfl) ⟨Nat.le_of_ble_eq_true rfl, Nat.le_of_ble_eq_true rfl⟩ ⟨Nat.zero_le _, Nat.zero_le _⟩ dX7_faults_16 rfl ?_
    refine g_if_eq C 29 22 dX7_faults_19 (by decide) rfl (fun c => ?_) (fun c => ?_)
    · have h := ifT c h
      refine g_aload_n C 30 0 dX7_faults_29 rfl rfl ?_
      refine g_iconst C 31 (-1 : Int32) dX7_faults_30 rfl rfl ?_
      refine bnd h (fun x4 e4 h => ?_)
      refine g_callVs (w' := (cells7 L o q x4.2)) C 34 [] [.int x4.1] (ct_X7_refuse L o q Z (-1 : Int32) x4 e4) kX7_refuse kvX7_refuse wl_X7_74 7 0 rfl rfl rfl rfl rfl rfl rfl (Nat.le_of_ble_eq_true rfl) ⟨Nat.le_of_ble_eq_true rfl, Nat.le_of_ble_eq_true rfl⟩ ⟨Nat.zero_le _, Nat.zero_le _⟩ dX7_faults_31 rfl ?_
      exact g_iret (st := []) C E dX7_faults_34 (by obtain rfl := Option.some.inj h; exact ⟨rfl, rfl⟩)
    · have h := ifF c h
      refine g_iload_n C 23 3 dX7_faults_22 rfl rfl ?_
      refine bnd h (fun x5 e5 h => ?_)
      refine g_callSr C 26 [] [.int x5] (ct_X7_isHour L v3 x5 e5) kX7_isHour kvX7_isHour wl_X7_167 [] rfl rfl rfl rfl rfl (Nat.le_of_ble_eq_true rfl) ⟨Nat.le_of_ble_eq_true rfl, Nat.le_of_ble_eq_true rfl⟩ ⟨Nat.zero_le _, Nat.zero_le _⟩ dX7_faults_23 rfl ?_
      refine g_if_ne C 35 29 dX7_faults_26 (by decide) rfl (fun c => ?_) (fun c => ?_)
      · have h := ifF c h
        refine g_iload C 37 4 dX7_faults_35 rfl rfl ?_
        by_cases c0 : v4 = (0 : Int32)
        · have h := ifT c0 h
          refine g_tabIn C 64 (27) dX7_faults_37 (by rw [c0]; decide) (by rw [c0]; decide) (by rw [c0]; rfl) (by decide) ?_
          refine g_aload_n C 65 0 dX7_faults_64 rfl rfl ?_
          refine g_get (v := .ref (o 1)) C 68 7 0 0 hin_7 rfl rfl (by decide) wf_X7_10 rfl dX7_faults_65 rfl ?_
          refine g_iload_n C 69 1 dX7_faults_68 rfl rfl ?_
          refine g_iload_n C 70 2 dX7_faults_69 rfl rfl ?_
          refine g_iload_n C 71 3 dX7_faults_70 rfl rfl ?_
          refine bnd h (fun x6 e6 h => ?_)
          refine g_callVr C 74 [] [.int x6] (ct_X6_faultsOn L (o 1) (q 1) (Z 1) v1 v2 v3 x6 e6) kX6_faultsOn kvX6_faultsOn wl_X7_182 6 0 rfl rfl rfl [1, 2, 3, 4, 5, 6, 7] rfl rfl rfl rfl rfl (Nat.le_of_ble_eq_true rfl) ⟨Nat.le_of_ble_eq_true rfl, Nat.le_of_ble_eq_true rfl⟩ ⟨Nat.zero_le _, Nat.zero_le _⟩ dX7_faults_71 rfl ?_
          exact g_iret (st := []) C E dX7_faults_74 (by obtain rfl := Option.some.inj h; exact ⟨rfl, rfl⟩)
        have h := ifF c0 h
        by_cases c1 : v4 = (1 : Int32)
        · have h := ifT c1 h
          refine g_tabIn C 75 (38) dX7_faults_37 (by rw [c1]; decide) (by rw [c1]; decide) (by rw [c1]; rfl) (by decide) ?_
          refine g_aload_n C 76 0 dX7_faults_75 rfl rfl ?_
          refine g_get (v := .ref (o 1)) C 79 7 0 0 hin_7 rfl rfl (by decide) wf_X7_10 rfl dX7_faults_76 rfl ?_
          refine g_iload_n C 80 1 dX7_faults_79 rfl rfl ?_
          refine g_iload_n C 81 2 dX7_faults_80 rfl rfl ?_
          refine g_iload_n C 82 3 dX7_faults_81 rfl rfl ?_
          refine bnd h (fun x7 e7 h => ?_)
          refine g_callVr C 85 [] [.int x7] (ct_X6_passes L (o 1) (q 1) (Z 1) v1 v2 v3 x7 e7) kX6_passes kvX6_passes wl_X7_185 6 0 rfl rfl rfl [1, 2, 3, 4, 5, 6, 7] rfl rfl rfl rfl rfl (Nat.le_of_ble_eq_true rfl) ⟨Nat.le_of_ble_eq_true rfl, Nat.le_of_ble_eq_true rfl⟩ ⟨Nat.zero_le _, Nat.zero_le _⟩ dX7_faults_82 rfl ?_
          refine g_if_eq C 92 88 dX7_faults_85 (by decide) rfl (fun c => ?_) (fun c => ?_)
          · have h := ifT c h
            refine g_iconst C 93 (0 : Int32) dX7_faults_92 rfl rfl ?_
            exact g_iret (st := []) C E dX7_faults_93 (by obtain rfl := Option.some.inj h; exact ⟨rfl, rfl⟩)
          · have h := ifF c h
            refine g_iconst C 89 (1 : Int32) dX7_faults_88 rfl rfl ?_
            refine g_goto C 93 dX7_faults_89 (by decide) ?_
            exact g_iret (st := []) C E dX7_faults_93 (by obtain rfl := Option.some.inj h; exact ⟨rfl, rfl⟩)
        have h := ifF c1 h
        by_cases c2 : v4 = (2 : Int32)
        · have h := ifT c2 h
          refine g_tabIn C 94 (57) dX7_faults_37 (by rw [c2]; decide) (by rw [c2]; decide) (by rw [c2]; rfl) (by decide) ?_
          refine g_aload_n C 95 0 dX7_faults_94 rfl rfl ?_
          refine g_get (v := .ref (o 9)) C 98 7 0 7 hin_7 rfl rfl (by decide) wf_X7_55 rfl dX7_faults_95 rfl ?_
          refine g_iload_n C 99 1 dX7_faults_98 rfl rfl ?_
          refine g_iload_n C 100 2 dX7_faults_99 rfl rfl ?_
          refine g_iload_n C 101 3 dX7_faults_100 rfl rfl ?_
          refine bnd h (fun x8 e8 h => ?_)
          refine g_callVr C 104 [] [.int x8] (ct_X2_worstStreet L (o 9) (o 1) (q 1) (Z 1) v1 v2 v3 x8 e8) kX2_worstStreet kvX2_worstStreet wl_X7_189 2 0 rfl rfl rfl [29, 1, 2, 3, 4, 5, 6, 7] rfl rfl rfl rfl rfl (Nat.le_of_ble_eq_true rfl) ⟨Nat.le_of_ble_eq_true rfl, Nat.le_of_ble_eq_true rfl⟩ ⟨Nat.zero_le _, Nat.zero_le _⟩ dX7_faults_101 rfl ?_
          exact g_iret (st := []) C E dX7_faults_104 (by obtain rfl := Option.some.inj h; exact ⟨rfl, rfl⟩)
        have h := ifF c2 h
        have t0 := ne_toInt c0 (show ((0 : Int32) : Int32).toInt = 0 by decide +kernel)
        have t1 := ne_toInt c1 (show ((1 : Int32) : Int32).toInt = 1 by decide +kernel)
        have t2 := ne_toInt c2 (show ((2 : Int32) : Int32).toInt = 2 by decide +kernel)
        by_cases cr : (v4).toInt < 0 ∨ 2 < (v4).toInt
        · refine g_tabOut C 105 dX7_faults_37 cr (by decide) ?_
          refine g_aload_n C 106 0 dX7_faults_105 rfl rfl ?_
          refine g_bipush C 108 (-2 : Int32) dX7_faults_106 rfl rfl ?_
          refine bnd h (fun x9 e9 h => ?_)
          refine g_callVs (w' := (cells7 L o q x9.2)) C 111 [] [.int x9.1] (ct_X7_refuse L o q Z (-2 : Int32) x9 e9) kX7_refuse kvX7_refuse wl_X7_74 7 0 rfl rfl rfl rfl rfl rfl rfl (Nat.le_of_ble_eq_true rfl) ⟨Nat.le_of_ble_eq_true rfl, Nat.le_of_ble_eq_true rfl⟩ ⟨Nat.zero_le _, Nat.zero_le _⟩ dX7_faults_108 rfl ?_
          exact g_iret (st := []) C E dX7_faults_111 (by obtain rfl := Option.some.inj h; exact ⟨rfl, rfl⟩)
        · exfalso; omega
      · have h := ifT c h
        refine g_aload_n C 30 0 dX7_faults_29 rfl rfl ?_
        refine g_iconst C 31 (-1 : Int32) dX7_faults_30 rfl rfl ?_
        refine bnd h (fun x10 e10 h => ?_)
        refine g_callVs (w' := (cells7 L o q x10.2)) C 34 [] [.int x10.1] (ct_X7_refuse L o q Z (-1 : Int32) x10 e10) kX7_refuse kvX7_refuse wl_X7_74 7 0 rfl rfl rfl rfl rfl rfl rfl (Nat.le_of_ble_eq_true rfl) ⟨Nat.le_of_ble_eq_true rfl, Nat.le_of_ble_eq_true rfl⟩ ⟨Nat.zero_le _, Nat.zero_le _⟩ dX7_faults_31 rfl ?_
        exact g_iret (st := []) C E dX7_faults_34 (by obtain rfl := Option.some.inj h; exact ⟨rfl, rfl⟩)
set_option maxHeartbeats 4000000 in
set_option maxRecDepth 100000 in
theorem ct_X7_bestHour (L : LL) (o : Nat → Nat) (q : Nat → Nat → Nat) (Z : Nat → OS) (v1 : Int32) (v2 : Int32) (v3 : Int32) (x : (Int32 × (Nat → OS))) (h : f_X7_bestHour Z v1 v2 v3 = some x) : Ct L yX7_bestHour cX7_bestHour 4 (some .int) (rmk 5 0 0 120) 0 0 [.ref (o 0), .int v1, .int v2, .int v3] (cells7 L o q Z) (Pv (some (.int x.1)) (cells7 L o q x.2)) := by
  refine g_enter (lv := [(0, .ref (o 0)), (1, .int v1), (2, .int v2), (3, .int v3)]) kX7_bestHour rfl rfl (Nat.le_of_ble_eq_true rfl) (fun Γ C E hNL => ?_)
  unfold f_X7_bestHour at h
  refine g_aload_n C 1 0 dX7_bestHour_0 rfl rfl ?_
  refine g_get (v := .ref (o 1)) C 4 7 0 0 hin_7 rfl rfl (by decide) wf_X7_10 rfl dX7_bestHour_1 rfl ?_
  refine g_iload_n C 5 1 dX7_bestHour_4 rfl rfl ?_
  refine bnd h (fun x1 e1 h => ?_)
  refine g_callVr C 8 [] [.int x1] (ct_X6_hasLearner L (o 1) (q 1) (Z 1) v1 x1 e1) kX6_hasLearner kvX6_hasLearner wl_X7_120 6 0 rfl rfl rfl [1, 2, 3, 4, 5, 6, 7] rfl rfl rfl rfl rfl (Nat.le_of_ble_eq_true rfl) ⟨Nat.le_of_ble_eq_true rfl, Nat.le_of_ble_eq_true rfl⟩ ⟨Nat.zero_le _, Nat.zero_le _⟩ dX7_bestHour_5 rfl ?_
  refine g_if_eq C 22 11 dX7_bestHour_8 (by decide) rfl (fun c => ?_) (fun c => ?_)
  · have h := ifT c h
    refine g_aload_n C 23 0 dX7_bestHour_22 rfl rfl ?_
    refine g_iconst C 24 (-1 : Int32) dX7_bestHour_23 rfl rfl ?_
    refine bnd h (fun x2 e2 h => ?_)
    refine g_callVs (w' := (cells7 L o q x2.2)) C 27 [] [.int x2.1] (ct_X7_refuse L o q Z (-1 : Int32) x2 e2) kX7_refuse kvX7_refuse wl_X7_74 7 0 rfl rfl rfl rfl rfl rfl rfl (Nat.le_of_ble_eq_true rfl) ⟨Nat.le_of_ble_eq_true rfl, Nat.le_of_ble_eq_true rfl⟩ ⟨Nat.zero_le _, Nat.zero_le _⟩ dX7_bestHour_24 rfl ?_
    exact g_iret (st := []) C E dX7_bestHour_27 (by obtain rfl := Option.some.inj h; exact ⟨rfl, rfl⟩)
  · have h := ifF c h
    refine g_aload_n C 12 0 dX7_bestHour_11 rfl rfl ?_
    refine g_get (v := .ref (o 1)) C 15 7 0 0 hin_7 rfl rfl (by decide) wf_X7_10 rfl dX7_bestHour_12 rfl ?_
    refine g_iload_n C 16 2 dX7_bestHour_15 rfl rfl ?_
    refine bnd h (fun x3 e3 h => ?_)
    refine g_callVr C 19 [] [.int x3] (ct_X6_hasWay L (o 1) (q 1) (Z 1) v2 x3 e3) kX6_hasWay kvX6_hasWay wl_X7_164 6 0 rfl rfl rfl [1, 2, 3, 4, 5, 6, 7] rfl rfl rfl rfl rfl (Nat.le_of_ble_eq_true rfl) ⟨Nat.le_of_ble_eq_true rfl, Nat.le_of_ble_eq_true rfl⟩ ⟨Nat.zero_le _, Nat.zero_le _⟩ dX7_bestHour_16 rfl ?_
    refine g_if_ne C 28 22 dX7_bestHour_19 (by decide) rfl (fun c => ?_) (fun c => ?_)
    · have h := ifF c h
      refine g_iload_n C 29 3 dX7_bestHour_28 rfl rfl ?_
      by_cases c0 : v3 = (0 : Int32)
      · have h := ifT c0 h
        refine g_lookup C 56 (27) dX7_bestHour_29 (by decide +kernel) (by rw [c0]; rfl) (by decide) ?_
        refine g_aload_n C 57 0 dX7_bestHour_56 rfl rfl ?_
        refine g_get (v := .ref (o 9)) C 60 7 0 7 hin_7 rfl rfl (by decide) wf_X7_55 rfl dX7_bestHour_57 rfl ?_
        refine g_iload_n C 61 1 dX7_bestHour_60 rfl rfl ?_
        refine g_iload_n C 62 2 dX7_bestHour_61 rfl rfl ?_
        refine bnd h (fun x4 e4 h => ?_)
        refine g_callVr C 65 [] [.int x4] (ct_X2_hourOfFewest L (o 9) (o 1) (q 1) (Z 1) v1 v2 x4 e4) kX2_hourOfFewest kvX2_hourOfFewest wl_X7_192 2 0 rfl rfl rfl [29, 1, 2, 3, 4, 5, 6, 7] rfl rfl rfl rfl rfl (Nat.le_of_ble_eq_true rfl) ⟨Nat.le_of_ble_eq_true rfl, Nat.le_of_ble_eq_true rfl⟩ ⟨Nat.zero_le _, Nat.zero_le _⟩ dX7_bestHour_62 rfl ?_
        exact g_iret (st := []) C E dX7_bestHour_65 (by obtain rfl := Option.some.inj h; exact ⟨rfl, rfl⟩)
      have h := ifF c0 h
      by_cases c1 : v3 = (1 : Int32)
      · have h := ifT c1 h
        refine g_lookup C 66 (37) dX7_bestHour_29 (by decide +kernel) (by rw [c1]; rfl) (by decide) ?_
        refine g_aload_n C 67 0 dX7_bestHour_66 rfl rfl ?_
        refine g_get (v := .ref (o 9)) C 70 7 0 7 hin_7 rfl rfl (by decide) wf_X7_55 rfl dX7_bestHour_67 rfl ?_
        refine g_iload_n C 71 1 dX7_bestHour_70 rfl rfl ?_
        refine g_iload_n C 72 2 dX7_bestHour_71 rfl rfl ?_
        refine bnd h (fun x5 e5 h => ?_)
        refine g_callVr C 75 [] [.int x5] (ct_X2_hoursPassed L (o 9) (o 1) (q 1) (Z 1) v1 v2 x5 e5) kX2_hoursPassed kvX2_hoursPassed wl_X7_195 2 0 rfl rfl rfl [29, 1, 2, 3, 4, 5, 6, 7] rfl rfl rfl rfl rfl (Nat.le_of_ble_eq_true rfl) ⟨Nat.le_of_ble_eq_true rfl, Nat.le_of_ble_eq_true rfl⟩ ⟨Nat.zero_le _, Nat.zero_le _⟩ dX7_bestHour_72 rfl ?_
        exact g_iret (st := []) C E dX7_bestHour_75 (by obtain rfl := Option.some.inj h; exact ⟨rfl, rfl⟩)
      have h := ifF c1 h
      refine g_lookup C 76 (47) dX7_bestHour_29 (by decide +kernel) (by refine (lv_osw c0 (by decide +kernel)).trans ?_; refine (lv_osw c1 (by decide +kernel)).trans ?_; rfl) (by decide) ?_
      refine g_aload_n C 77 0 dX7_bestHour_76 rfl rfl ?_
      refine g_bipush C 79 (-2 : Int32) dX7_bestHour_77 rfl rfl ?_
      refine bnd h (fun x6 e6 h => ?_)
      refine g_callVs (w' := (cells7 L o q x6.2)) C 82 [] [.int x6.1] (ct_X7_refuse L o q Z (-2 : Int32) x6 e6) kX7_refuse kvX7_refuse wl_X7_74 7 0 rfl rfl rfl rfl rfl rfl rfl (Nat.le_of_ble_eq_true rfl) ⟨Nat.le_of_ble_eq_true rfl, Nat.le_of_ble_eq_true rfl⟩ ⟨Nat.zero_le _, Nat.zero_le _⟩ dX7_bestHour_79 rfl ?_
      exact g_iret (st := []) C E dX7_bestHour_82 (by obtain rfl := Option.some.inj h; exact ⟨rfl, rfl⟩)
    · have h := ifT c h
      refine g_aload_n C 23 0 dX7_bestHour_22 rfl rfl ?_
      refine g_iconst C 24 (-1 : Int32) dX7_bestHour_23 rfl rfl ?_
      refine bnd h (fun x7 e7 h => ?_)
      refine g_callVs (w' := (cells7 L o q x7.2)) C 27 [] [.int x7.1] (ct_X7_refuse L o q Z (-1 : Int32) x7 e7) kX7_refuse kvX7_refuse wl_X7_74 7 0 rfl rfl rfl rfl rfl rfl rfl (Nat.le_of_ble_eq_true rfl) ⟨Nat.le_of_ble_eq_true rfl, Nat.le_of_ble_eq_true rfl⟩ ⟨Nat.zero_le _, Nat.zero_le _⟩ dX7_bestHour_24 rfl ?_
      exact g_iret (st := []) C E dX7_bestHour_27 (by obtain rfl := Option.some.inj h; exact ⟨rfl, rfl⟩)
set_option maxHeartbeats 4000000 in
set_option maxRecDepth 100000 in
theorem ct_X7_easiest (L : LL) (o : Nat → Nat) (q : Nat → Nat → Nat) (Z : Nat → OS) (v1 : Int32) (v2 : Int32) (v3 : Int32) (x : (Int32 × (Nat → OS))) (h : f_X7_easiest Z v1 v2 v3 = some x) : Ct L yX7_easiest cX7_easiest 4 (some .int) (rmk 5 0 0 120) 0 0 [.ref (o 0), .int v1, .int v2, .int v3] (cells7 L o q Z) (Pv (some (.int x.1)) (cells7 L o q x.2)) := by
  refine g_enter (lv := [(0, .ref (o 0)), (1, .int v1), (2, .int v2), (3, .int v3)]) kX7_easiest rfl rfl (Nat.le_of_ble_eq_true rfl) (fun Γ C E hNL => ?_)
  unfold f_X7_easiest at h
  refine g_aload_n C 1 0 dX7_easiest_0 rfl rfl ?_
  refine g_get (v := .ref (o 1)) C 4 7 0 0 hin_7 rfl rfl (by decide) wf_X7_10 rfl dX7_easiest_1 rfl ?_
  refine g_iload_n C 5 1 dX7_easiest_4 rfl rfl ?_
  refine bnd h (fun x1 e1 h => ?_)
  refine g_callVr C 8 [] [.int x1] (ct_X6_hasLearner L (o 1) (q 1) (Z 1) v1 x1 e1) kX6_hasLearner kvX6_hasLearner wl_X7_120 6 0 rfl rfl rfl [1, 2, 3, 4, 5, 6, 7] rfl rfl rfl rfl rfl (Nat.le_of_ble_eq_true rfl) ⟨Nat.le_of_ble_eq_true rfl, Nat.le_of_ble_eq_true rfl⟩ ⟨Nat.zero_le _, Nat.zero_le _⟩ dX7_easiest_5 rfl ?_
  refine g_if_eq C 18 11 dX7_easiest_8 (by decide) rfl (fun c => ?_) (fun c => ?_)
  · have h := ifT c h
    refine g_aload_n C 19 0 dX7_easiest_18 rfl rfl ?_
    refine g_iconst C 20 (-1 : Int32) dX7_easiest_19 rfl rfl ?_
    refine bnd h (fun x2 e2 h => ?_)
    refine g_callVs (w' := (cells7 L o q x2.2)) C 23 [] [.int x2.1] (ct_X7_refuse L o q Z (-1 : Int32) x2 e2) kX7_refuse kvX7_refuse wl_X7_74 7 0 rfl rfl rfl rfl rfl rfl rfl (Nat.le_of_ble_eq_true rfl) ⟨Nat.le_of_ble_eq_true rfl, Nat.le_of_ble_eq_true rfl⟩ ⟨Nat.zero_le _, Nat.zero_le _⟩ dX7_easiest_20 rfl ?_
    exact g_iret (st := []) C E dX7_easiest_23 (by obtain rfl := Option.some.inj h; exact ⟨rfl, rfl⟩)
  · have h := ifF c h
    refine g_iload_n C 12 2 dX7_easiest_11 rfl rfl ?_
    refine bnd h (fun x3 e3 h => ?_)
    refine g_callSr C 15 [] [.int x3] (ct_X7_isHour L v2 x3 e3) kX7_isHour kvX7_isHour wl_X7_167 [] rfl rfl rfl rfl rfl (Nat.le_of_ble_eq_true rfl) ⟨Nat.le_of_ble_eq_true rfl, Nat.le_of_ble_eq_true rfl⟩ ⟨Nat.zero_le _, Nat.zero_le _⟩ dX7_easiest_12 rfl ?_
    refine g_if_ne C 24 18 dX7_easiest_15 (by decide) rfl (fun c => ?_) (fun c => ?_)
    · have h := ifF c h
      refine g_iload_n C 25 3 dX7_easiest_24 rfl rfl ?_
      by_cases c0 : v3 = (0 : Int32)
      · have h := ifT c0 h
        refine g_lookup C 52 (27) dX7_easiest_25 (by decide +kernel) (by rw [c0]; rfl) (by decide) ?_
        refine g_aload_n C 53 0 dX7_easiest_52 rfl rfl ?_
        refine g_get (v := .ref (o 9)) C 56 7 0 7 hin_7 rfl rfl (by decide) wf_X7_55 rfl dX7_easiest_53 rfl ?_
        refine g_iload_n C 57 1 dX7_easiest_56 rfl rfl ?_
        refine g_iload_n C 58 2 dX7_easiest_57 rfl rfl ?_
        refine bnd h (fun x4 e4 h => ?_)
        refine g_callVr C 61 [] [.int x4] (ct_X2_wayOfFewest L (o 9) (o 1) (q 1) (Z 1) v1 v2 x4 e4) kX2_wayOfFewest kvX2_wayOfFewest wl_X7_198 2 0 rfl rfl rfl [29, 1, 2, 3, 4, 5, 6, 7] rfl rfl rfl rfl rfl (Nat.le_of_ble_eq_true rfl) ⟨Nat.le_of_ble_eq_true rfl, Nat.le_of_ble_eq_true rfl⟩ ⟨Nat.zero_le _, Nat.zero_le _⟩ dX7_easiest_58 rfl ?_
        exact g_iret (st := []) C E dX7_easiest_61 (by obtain rfl := Option.some.inj h; exact ⟨rfl, rfl⟩)
      have h := ifF c0 h
      by_cases c1 : v3 = (1 : Int32)
      · have h := ifT c1 h
        refine g_lookup C 62 (37) dX7_easiest_25 (by decide +kernel) (by rw [c1]; rfl) (by decide) ?_
        refine g_aload_n C 63 0 dX7_easiest_62 rfl rfl ?_
        refine g_get (v := .ref (o 1)) C 66 7 0 0 hin_7 rfl rfl (by decide) wf_X7_10 rfl dX7_easiest_63 rfl ?_
        refine g_aload_n C 67 0 dX7_easiest_66 rfl rfl ?_
        refine g_get (v := .ref (o 1)) C 70 7 0 0 hin_7 rfl rfl (by decide) wf_X7_10 rfl dX7_easiest_67 rfl ?_
        refine g_get (v := .ref ((q 1) 10)) C 73 6 1 10 hin_6 rfl rfl (by decide) wf_X7_123 rfl dX7_easiest_70 rfl ?_
        refine g_iload_n C 74 1 dX7_easiest_73 rfl rfl ?_
        refine bnd h (fun x5 e5 h => ?_)
        refine g_callSr C 77 [.ref (o 1)] [.int x5, .ref (o 1)] (ct_X7_at L ((q 1) 10) 5 ((Z 1).2 10) v1 x5 e5) kX7_at kvX7_at wl_X7_100 [6] rfl rfl rfl rfl rfl (Nat.le_of_ble_eq_true rfl) ⟨Nat.le_of_ble_eq_true rfl, Nat.le_of_ble_eq_true rfl⟩ ⟨Nat.zero_le _, Nat.zero_le _⟩ dX7_easiest_74 rfl ?_
        refine g_aload_n C 78 0 dX7_easiest_77 rfl rfl ?_
        refine g_get (v := .ref (o 1)) C 81 7 0 0 hin_7 rfl rfl (by decide) wf_X7_10 rfl dX7_easiest_78 rfl ?_
        refine g_get (v := .ref ((q 1) 11)) C 84 6 1 11 hin_6 rfl rfl (by decide) wf_X7_126 rfl dX7_easiest_81 rfl ?_
        refine g_iload_n C 85 1 dX7_easiest_84 rfl rfl ?_
        refine bnd h (fun x6 e6 h => ?_)
        refine g_callSr C 88 [.int x5, .ref (o 1)] [.int x6, .int x5, .ref (o 1)] (ct_X7_at L ((q 1) 11) 5 ((Z 1).2 11) v1 x6 e6) kX7_at kvX7_at wl_X7_100 [7] rfl rfl rfl rfl rfl (Nat.le_of_ble_eq_true rfl) ⟨Nat.le_of_ble_eq_true rfl, Nat.le_of_ble_eq_true rfl⟩ ⟨Nat.zero_le _, Nat.zero_le _⟩ dX7_easiest_85 rfl ?_
        refine g_iload_n C 89 2 dX7_easiest_88 rfl rfl ?_
        refine bnd h (fun x7 e7 h => ?_)
        refine g_callVr C 92 [] [.int x7] (ct_X6_waysPassed L (o 1) (q 1) (Z 1) x5 x6 v2 x7 e7) kX6_waysPassed kvX6_waysPassed wl_X7_201 6 0 rfl rfl rfl [1, 2, 3, 4, 5, 6, 7] rfl rfl rfl rfl rfl (Nat.le_of_ble_eq_true rfl) ⟨Nat.le_of_ble_eq_true rfl, Nat.le_of_ble_eq_true rfl⟩ ⟨Nat.zero_le _, Nat.zero_le _⟩ dX7_easiest_89 rfl ?_
        exact g_iret (st := []) C E dX7_easiest_92 (by obtain rfl := Option.some.inj h; exact ⟨rfl, rfl⟩)
      have h := ifF c1 h
      refine g_lookup C 93 (68) dX7_easiest_25 (by decide +kernel) (by refine (lv_osw c0 (by decide +kernel)).trans ?_; refine (lv_osw c1 (by decide +kernel)).trans ?_; rfl) (by decide) ?_
      refine g_aload_n C 94 0 dX7_easiest_93 rfl rfl ?_
      refine g_bipush C 96 (-2 : Int32) dX7_easiest_94 rfl rfl ?_
      refine bnd h (fun x8 e8 h => ?_)
      refine g_callVs (w' := (cells7 L o q x8.2)) C 99 [] [.int x8.1] (ct_X7_refuse L o q Z (-2 : Int32) x8 e8) kX7_refuse kvX7_refuse wl_X7_74 7 0 rfl rfl rfl rfl rfl rfl rfl (Nat.le_of_ble_eq_true rfl) ⟨Nat.le_of_ble_eq_true rfl, Nat.le_of_ble_eq_true rfl⟩ ⟨Nat.zero_le _, Nat.zero_le _⟩ dX7_easiest_96 rfl ?_
      exact g_iret (st := []) C E dX7_easiest_99 (by obtain rfl := Option.some.inj h; exact ⟨rfl, rfl⟩)
    · have h := ifT c h
      refine g_aload_n C 19 0 dX7_easiest_18 rfl rfl ?_
      refine g_iconst C 20 (-1 : Int32) dX7_easiest_19 rfl rfl ?_
      refine bnd h (fun x9 e9 h => ?_)
      refine g_callVs (w' := (cells7 L o q x9.2)) C 23 [] [.int x9.1] (ct_X7_refuse L o q Z (-1 : Int32) x9 e9) kX7_refuse kvX7_refuse wl_X7_74 7 0 rfl rfl rfl rfl rfl rfl rfl (Nat.le_of_ble_eq_true rfl) ⟨Nat.le_of_ble_eq_true rfl, Nat.le_of_ble_eq_true rfl⟩ ⟨Nat.zero_le _, Nat.zero_le _⟩ dX7_easiest_20 rfl ?_
      exact g_iret (st := []) C E dX7_easiest_23 (by obtain rfl := Option.some.inj h; exact ⟨rfl, rfl⟩)
set_option maxHeartbeats 4000000 in
set_option maxRecDepth 100000 in
theorem ct_X7_learn (L : LL) (o : Nat → Nat) (q : Nat → Nat → Nat) (Z : Nat → OS) (v1 : Int32) (v2 : Int32) (v3 : Int32) (x : (Int32 × (Nat → OS))) (h : f_X7_learn Z v1 v2 v3 = some x) : Ct L yX7_learn cX7_learn 5 (some .int) (rmk 5 0 0 125) 0 0 [.ref (o 0), .int v1, .int v2, .int v3] (cells7 L o q Z) (Pv (some (.int x.1)) (cells7 L o q x.2)) := by
  refine g_enter (lv := [(0, .ref (o 0)), (1, .int v1), (2, .int v2), (3, .int v3)]) kX7_learn rfl rfl (Nat.le_of_ble_eq_true rfl) (fun Γ C E hNL => ?_)
  have J_39 : ∀ (v1 : Int32) (v2 : Int32) (v3 : Int32) (v4 : Int32) (Z : (Nat → OS)), j_X7_learn_39   v1 v2 v3 v4 Z = some x → G L Γ 0 0 (cells7 L o q Z) 39 [(0, .ref (o 0)), (1, .int v1), (2, .int v2), (3, .int v3), (4, .int v4)] [] := by
    intro v1 v2 v3 v4 Z h
    unfold j_X7_learn_39 at h
    refine g_iload_n C 40 3 dX7_learn_39 rfl rfl ?_
    refine bnd h (fun x5 e5 h => ?_)
    refine g_callSr C 43 [] [.int x5] (ct_X7_isHour L v3 x5 e5) kX7_isHour kvX7_isHour wl_X7_167 [] rfl rfl rfl rfl rfl (Nat.le_of_ble_eq_true rfl) ⟨Nat.le_of_ble_eq_true rfl, Nat.le_of_ble_eq_true rfl⟩ ⟨Nat.zero_le _, Nat.zero_le _⟩ dX7_learn_40 rfl ?_
    refine g_if_ne C 52 46 dX7_learn_43 (by decide) rfl (fun c => ?_) (fun c => ?_)
    · have h := ifF c h
      refine g_aload_n C 53 0 dX7_learn_52 rfl rfl ?_
      refine g_get (v := .ref (o 9)) C 56 7 0 7 hin_7 rfl rfl (by decide) wf_X7_55 rfl dX7_learn_53 rfl ?_
      refine g_iload_n C 57 1 dX7_learn_56 rfl rfl ?_
      refine g_iload C 59 4 dX7_learn_57 rfl rfl ?_
      refine g_if_eq C 72 62 dX7_learn_59 (by decide) rfl (fun c => ?_) (fun c => ?_)
      · have h := ifT c h
        refine g_iconst C 73 (1 : Int32) dX7_learn_72 rfl rfl ?_
        refine g_iload_n C 74 2 dX7_learn_73 rfl rfl ?_
        refine g_ishl C 75 dX7_learn_74 rfl ?_
        refine g_iload_n C 76 3 dX7_learn_75 rfl rfl ?_
        refine bnd h (fun x6 e6 h => ?_)
        refine g_callVr C 79 [] [.int x6] (ct_X2_toLearn L (o 9) (o 1) (q 1) (Z 1) v1 ((1 : Int32) <<< (v2 &&& 31)) v3 x6 e6) kX2_toLearn kvX2_toLearn wl_X7_207 2 0 rfl rfl rfl [29, 1, 2, 3, 4, 5, 6, 7] rfl rfl rfl rfl rfl (Nat.le_of_ble_eq_true rfl) ⟨Nat.le_of_ble_eq_true rfl, Nat.le_of_ble_eq_true rfl⟩ ⟨Nat.zero_le _, Nat.zero_le _⟩ dX7_learn_76 rfl ?_
        exact g_iret (st := []) C E dX7_learn_79 (by obtain rfl := Option.some.inj h; exact ⟨rfl, rfl⟩)
      · have h := ifF c h
        refine g_aload_n C 63 0 dX7_learn_62 rfl rfl ?_
        refine g_get (v := .ref (o 1)) C 66 7 0 0 hin_7 rfl rfl (by decide) wf_X7_10 rfl dX7_learn_63 rfl ?_
        refine bnd h (fun x7 e7 h => ?_)
        refine g_callVr C 69 [.int v1, .ref (o 9)] [.int x7, .int v1, .ref (o 9)] (ct_X6_allWays L (o 1) (q 1) (Z 1) x7 e7) kX6_allWays kvX6_allWays wl_X7_204 6 0 rfl rfl rfl [1, 2, 3, 4, 5, 6, 7] rfl rfl rfl rfl rfl (Nat.le_of_ble_eq_true rfl) ⟨Nat.le_of_ble_eq_true rfl, Nat.le_of_ble_eq_true rfl⟩ ⟨Nat.zero_le _, Nat.zero_le _⟩ dX7_learn_66 rfl ?_
        refine g_goto C 75 dX7_learn_69 (by decide) ?_
        refine g_iload_n C 76 3 dX7_learn_75 rfl rfl ?_
        refine bnd h (fun x8 e8 h => ?_)
        refine g_callVr C 79 [] [.int x8] (ct_X2_toLearn L (o 9) (o 1) (q 1) (Z 1) v1 x7 v3 x8 e8) kX2_toLearn kvX2_toLearn wl_X7_207 2 0 rfl rfl rfl [29, 1, 2, 3, 4, 5, 6, 7] rfl rfl rfl rfl rfl (Nat.le_of_ble_eq_true rfl) ⟨Nat.le_of_ble_eq_true rfl, Nat.le_of_ble_eq_true rfl⟩ ⟨Nat.zero_le _, Nat.zero_le _⟩ dX7_learn_76 rfl ?_
        exact g_iret (st := []) C E dX7_learn_79 (by obtain rfl := Option.some.inj h; exact ⟨rfl, rfl⟩)
    · have h := ifT c h
      refine g_aload_n C 47 0 dX7_learn_46 rfl rfl ?_
      refine g_iconst C 48 (-1 : Int32) dX7_learn_47 rfl rfl ?_
      refine bnd h (fun x9 e9 h => ?_)
      refine g_callVs (w' := (cells7 L o q x9.2)) C 51 [] [.int x9.1] (ct_X7_refuse L o q Z (-1 : Int32) x9 e9) kX7_refuse kvX7_refuse wl_X7_74 7 0 rfl rfl rfl rfl rfl rfl rfl (Nat.le_of_ble_eq_true rfl) ⟨Nat.le_of_ble_eq_true rfl, Nat.le_of_ble_eq_true rfl⟩ ⟨Nat.zero_le _, Nat.zero_le _⟩ dX7_learn_48 rfl ?_
      exact g_iret (st := []) C E dX7_learn_51 (by obtain rfl := Option.some.inj h; exact ⟨rfl, rfl⟩)
  have J_10 : ∀ (v1 : Int32) (v2 : Int32) (v3 : Int32) (s0 : Int32) (Z : (Nat → OS)), j_X7_learn_10   v1 v2 v3 s0 Z = some x → G L Γ 0 0 (cells7 L o q Z) 10 [(0, .ref (o 0)), (1, .int v1), (2, .int v2), (3, .int v3)] [.int s0] := by
    intro v1 v2 v3 s0 Z h
    unfold j_X7_learn_10 at h
    refine g_istore C 12 4 [(4, .int s0), (0, .ref (o 0)), (1, .int v1), (2, .int v2), (3, .int v3)] dX7_learn_10 rfl 5 hNL (by decide) rfl ?_
    refine g_aload_n C 13 1 dX7_learn_12 rfl rfl ?_
    refine g_get (v := .ref (o 1)) C 16 7 0 0 hin_7 rfl rfl (by decide) wf_X7_10 rfl dX7_learn_13 rfl ?_
    refine g_iload_n C 17 2 dX7_learn_16 rfl rfl ?_
    refine bnd h (fun x1 e1 h => ?_)
    refine g_callVr C 20 [] [.int x1] (ct_X6_hasLearner L (o 1) (q 1) (Z 1) v1 x1 e1) kX6_hasLearner kvX6_hasLearner wl_X7_120 6 0 rfl rfl rfl [1, 2, 3, 4, 5, 6, 7] rfl rfl rfl rfl rfl (Nat.le_of_ble_eq_true rfl) ⟨Nat.le_of_ble_eq_true rfl, Nat.le_of_ble_eq_true rfl⟩ ⟨Nat.zero_le _, Nat.zero_le _⟩ dX7_learn_17 rfl ?_
    refine g_if_eq C 46 23 dX7_learn_20 (by decide) rfl (fun c => ?_) (fun c => ?_)
    · have h := ifT c h
      refine g_aload_n C 47 1 dX7_learn_46 rfl rfl ?_
      refine g_iconst C 48 (-1 : Int32) dX7_learn_47 rfl rfl ?_
      refine bnd h (fun x2 e2 h => ?_)
      refine g_callVs (w' := (cells7 L o q x2.2)) C 51 [] [.int x2.1] (ct_X7_refuse L o q Z (-1 : Int32) x2 e2) kX7_refuse kvX7_refuse wl_X7_74 7 0 rfl rfl rfl rfl rfl rfl rfl (Nat.le_of_ble_eq_true rfl) ⟨Nat.le_of_ble_eq_true rfl, Nat.le_of_ble_eq_true rfl⟩ ⟨Nat.zero_le _, Nat.zero_le _⟩ dX7_learn_48 rfl ?_
      exact g_iret (st := []) C E dX7_learn_51 (by obtain rfl := Option.some.inj h; exact ⟨rfl, rfl⟩)
    · have h := ifF c h
      refine g_iload C 25 0 dX7_learn_23 rfl rfl ?_
      refine g_if_ne C 39 28 dX7_learn_25 (by decide) rfl (fun c => ?_) (fun c => ?_)
      · have h := ifF c h
        refine g_lv (lv' := [(0, .ref (o 0)), (1, .int v1), (2, .int v2), (3, .int v3), (4, .int s0)]) [1, 2, 3, 4, 0] rfl ?_
        exact J_39 _ _ _ _ _ h
      · have h := ifT c h
        refine g_aload_n C 29 1 dX7_learn_28 rfl rfl ?_
        refine g_get (v := .ref (o 1)) C 32 7 0 0 hin_7 rfl rfl (by decide) wf_X7_10 rfl dX7_learn_29 rfl ?_
        refine g_iload_n C 33 3 dX7_learn_32 rfl rfl ?_
        refine bnd h (fun x3 e3 h => ?_)
        refine g_callVr C 36 [] [.int x3] (ct_X6_hasWay L (o 1) (q 1) (Z 1) v2 x3 e3) kX6_hasWay kvX6_hasWay wl_X7_164 6 0 rfl rfl rfl [1, 2, 3, 4, 5, 6, 7] rfl rfl rfl rfl rfl (Nat.le_of_ble_eq_true rfl) ⟨Nat.le_of_ble_eq_true rfl, Nat.le_of_ble_eq_true rfl⟩ ⟨Nat.zero_le _, Nat.zero_le _⟩ dX7_learn_33 rfl ?_
        refine g_if_eq C 46 39 dX7_learn_36 (by decide) rfl (fun c => ?_) (fun c => ?_)
        · have h := ifT c h
          refine g_aload_n C 47 1 dX7_learn_46 rfl rfl ?_
          refine g_iconst C 48 (-1 : Int32) dX7_learn_47 rfl rfl ?_
          refine bnd h (fun x4 e4 h => ?_)
          refine g_callVs (w' := (cells7 L o q x4.2)) C 51 [] [.int x4.1] (ct_X7_refuse L o q Z (-1 : Int32) x4 e4) kX7_refuse kvX7_refuse wl_X7_74 7 0 rfl rfl rfl rfl rfl rfl rfl (Nat.le_of_ble_eq_true rfl) ⟨Nat.le_of_ble_eq_true rfl, Nat.le_of_ble_eq_true rfl⟩ ⟨Nat.zero_le _, Nat.zero_le _⟩ dX7_learn_48 rfl ?_
          exact g_iret (st := []) C E dX7_learn_51 (by obtain rfl := Option.some.inj h; exact ⟨rfl, rfl⟩)
        · have h := ifF c h
          refine g_lv (lv' := [(0, .ref (o 0)), (1, .int v1), (2, .int v2), (3, .int v3), (4, .int s0)]) [1, 2, 3, 4, 0] rfl ?_
          exact J_39 _ _ _ _ _ h
  unfold f_X7_learn at h
  refine g_iload_n C 1 2 dX7_learn_0 rfl rfl ?_
  refine g_iconst C 2 (-1 : Int32) dX7_learn_1 rfl rfl ?_
  refine g_icmp_ne C 9 5 dX7_learn_2 (by decide) rfl (fun c => ?_) (fun c => ?_)
  · have h := ifF c h
    refine g_iconst C 10 (0 : Int32) dX7_learn_9 rfl rfl ?_
    exact J_10 _ _ _ _ _ h
  · have h := ifT c h
    refine g_iconst C 6 (1 : Int32) dX7_learn_5 rfl rfl ?_
    refine g_goto C 10 dX7_learn_6 (by decide) ?_
    exact J_10 _ _ _ _ _ h
set_option maxHeartbeats 4000000 in
set_option maxRecDepth 100000 in
theorem ct_X7_refuseLong (L : LL) (o : Nat → Nat) (q : Nat → Nat → Nat) (Z : Nat → OS) (v1 : Int32) (x : (Int64 × (Nat → OS))) (h : f_X7_refuseLong Z v1 = some x) : Ct L yX7_refuseLong cX7_refuseLong 2 (some .long) (rmk 2 0 0 43) 0 0 [.ref (o 0), .int v1] (cells7 L o q Z) (Pv (some (.long x.1)) (cells7 L o q x.2)) := by
  refine g_enter (lv := [(0, .ref (o 0)), (1, .int v1)]) kX7_refuseLong rfl rfl (Nat.le_of_ble_eq_true rfl) (fun Γ C E hNL => ?_)
  unfold f_X7_refuseLong at h
  refine g_ldc2 (v := (4000000000000000000 : Int64)) C 3 dX7_refuseLong_0 rfl wc_X7_349 ?_
  refine g_aload_n C 4 0 dX7_refuseLong_3 rfl rfl ?_
  refine g_iload_n C 5 1 dX7_refuseLong_4 rfl rfl ?_
  refine bnd h (fun x1 e1 h => ?_)
  refine g_callVs (w' := (cells7 L o q x1.2)) C 8 [.long (4000000000000000000 : Int64)] [.int x1.1, .long (4000000000000000000 : Int64)] (ct_X7_refuse L o q Z v1 x1 e1) kX7_refuse kvX7_refuse wl_X7_74 7 0 rfl rfl rfl rfl rfl rfl rfl (Nat.le_of_ble_eq_true rfl) ⟨Nat.le_of_ble_eq_true rfl, Nat.le_of_ble_eq_true rfl⟩ ⟨Nat.zero_le _, Nat.zero_le _⟩ dX7_refuseLong_5 rfl ?_
  refine g_i2l C 9 dX7_refuseLong_8 rfl ?_
  refine g_lsub C 10 dX7_refuseLong_9 rfl ?_
  exact g_lret (st := []) C E dX7_refuseLong_10 (by obtain rfl := Option.some.inj h; exact ⟨rfl, rfl⟩)
set_option maxHeartbeats 4000000 in
set_option maxRecDepth 100000 in
theorem ct_X7_drawnWay (L : LL) (o : Nat → Nat) (q : Nat → Nat → Nat) (Z : Nat → OS) (v1 : Int32) (v2 : Int32) (v3 : Int32) (x : (Int64 × (Nat → OS))) (h : f_X7_drawnWay Z v1 v2 v3 = some x) : Ct L yX7_drawnWay cX7_drawnWay 5 (some .long) (rmk 4 0 0 97) 0 0 [.ref (o 0), .int v1, .int v2, .int v3] (cells7 L o q Z) (Pv (some (.long x.1)) (cells7 L o q x.2)) := by
  refine g_enter (lv := [(0, .ref (o 0)), (1, .int v1), (2, .int v2), (3, .int v3)]) kX7_drawnWay rfl rfl (Nat.le_of_ble_eq_true rfl) (fun Γ C E hNL => ?_)
  unfold f_X7_drawnWay at h
  refine g_aload_n C 1 0 dX7_drawnWay_0 rfl rfl ?_
  refine g_get (v := .ref (o 1)) C 4 7 0 0 hin_7 rfl rfl (by decide) wf_X7_10 rfl dX7_drawnWay_1 rfl ?_
  refine g_iload_n C 5 1 dX7_drawnWay_4 rfl rfl ?_
  refine bnd h (fun x1 e1 h => ?_)
  refine g_callVr C 8 [] [.int x1] (ct_X6_hasLearner L (o 1) (q 1) (Z 1) v1 x1 e1) kX6_hasLearner kvX6_hasLearner wl_X7_120 6 0 rfl rfl rfl [1, 2, 3, 4, 5, 6, 7] rfl rfl rfl rfl rfl (Nat.le_of_ble_eq_true rfl) ⟨Nat.le_of_ble_eq_true rfl, Nat.le_of_ble_eq_true rfl⟩ ⟨Nat.zero_le _, Nat.zero_le _⟩ dX7_drawnWay_5 rfl ?_
  refine g_if_eq C 18 11 dX7_drawnWay_8 (by decide) rfl (fun c => ?_) (fun c => ?_)
  · have h := ifT c h
    refine g_aload_n C 19 0 dX7_drawnWay_18 rfl rfl ?_
    refine g_iconst C 20 (-1 : Int32) dX7_drawnWay_19 rfl rfl ?_
    refine bnd h (fun x2 e2 h => ?_)
    refine g_callVs (w' := (cells7 L o q x2.2)) C 23 [] [.long x2.1] (ct_X7_refuseLong L o q Z (-1 : Int32) x2 e2) kX7_refuseLong kvX7_refuseLong wl_X7_210 7 0 rfl rfl rfl rfl rfl rfl rfl (Nat.le_of_ble_eq_true rfl) ⟨Nat.le_of_ble_eq_true rfl, Nat.le_of_ble_eq_true rfl⟩ ⟨Nat.zero_le _, Nat.zero_le _⟩ dX7_drawnWay_20 rfl ?_
    exact g_lret (st := []) C E dX7_drawnWay_23 (by obtain rfl := Option.some.inj h; exact ⟨rfl, rfl⟩)
  · have h := ifF c h
    refine g_iload_n C 12 2 dX7_drawnWay_11 rfl rfl ?_
    refine bnd h (fun x3 e3 h => ?_)
    refine g_callSr C 15 [] [.int x3] (ct_X7_isHour L v2 x3 e3) kX7_isHour kvX7_isHour wl_X7_167 [] rfl rfl rfl rfl rfl (Nat.le_of_ble_eq_true rfl) ⟨Nat.le_of_ble_eq_true rfl, Nat.le_of_ble_eq_true rfl⟩ ⟨Nat.zero_le _, Nat.zero_le _⟩ dX7_drawnWay_12 rfl ?_
    refine g_if_ne C 24 18 dX7_drawnWay_15 (by decide) rfl (fun c => ?_) (fun c => ?_)
    · have h := ifF c h
      refine g_iload_n C 25 3 dX7_drawnWay_24 rfl rfl ?_
      refine bnd h (fun x4 e4 h => ?_)
      refine g_callSr C 28 [] [.int x4] (ct_X7_isEither L v3 x4 e4) kX7_isEither kvX7_isEither wl_X7_214 [] rfl rfl rfl rfl rfl (Nat.le_of_ble_eq_true rfl) ⟨Nat.le_of_ble_eq_true rfl, Nat.le_of_ble_eq_true rfl⟩ ⟨Nat.zero_le _, Nat.zero_le _⟩ dX7_drawnWay_25 rfl ?_
      refine g_if_ne C 38 31 dX7_drawnWay_28 (by decide) rfl (fun c => ?_) (fun c => ?_)
      · have h := ifF c h
        refine g_aload_n C 39 0 dX7_drawnWay_38 rfl rfl ?_
        refine g_get (v := .ref (o 1)) C 42 7 0 0 hin_7 rfl rfl (by decide) wf_X7_10 rfl dX7_drawnWay_39 rfl ?_
        refine g_aload_n C 43 0 dX7_drawnWay_42 rfl rfl ?_
        refine g_get (v := .ref (o 1)) C 46 7 0 0 hin_7 rfl rfl (by decide) wf_X7_10 rfl dX7_drawnWay_43 rfl ?_
        refine g_get (v := .ref ((q 1) 10)) C 49 6 1 10 hin_6 rfl rfl (by decide) wf_X7_123 rfl dX7_drawnWay_46 rfl ?_
        refine g_iload_n C 50 1 dX7_drawnWay_49 rfl rfl ?_
        refine bnd h (fun x5 e5 h => ?_)
        refine g_callSr C 53 [.ref (o 1)] [.int x5, .ref (o 1)] (ct_X7_at L ((q 1) 10) 5 ((Z 1).2 10) v1 x5 e5) kX7_at kvX7_at wl_X7_100 [6] rfl rfl rfl rfl rfl (Nat.le_of_ble_eq_true rfl) ⟨Nat.le_of_ble_eq_true rfl, Nat.le_of_ble_eq_true rfl⟩ ⟨Nat.zero_le _, Nat.zero_le _⟩ dX7_drawnWay_50 rfl ?_
        refine g_aload_n C 54 0 dX7_drawnWay_53 rfl rfl ?_
        refine g_get (v := .ref (o 1)) C 57 7 0 0 hin_7 rfl rfl (by decide) wf_X7_10 rfl dX7_drawnWay_54 rfl ?_
        refine g_get (v := .ref ((q 1) 11)) C 60 6 1 11 hin_6 rfl rfl (by decide) wf_X7_126 rfl dX7_drawnWay_57 rfl ?_
        refine g_iload_n C 61 1 dX7_drawnWay_60 rfl rfl ?_
        refine bnd h (fun x6 e6 h => ?_)
        refine g_callSr C 64 [.int x5, .ref (o 1)] [.int x6, .int x5, .ref (o 1)] (ct_X7_at L ((q 1) 11) 5 ((Z 1).2 11) v1 x6 e6) kX7_at kvX7_at wl_X7_100 [7] rfl rfl rfl rfl rfl (Nat.le_of_ble_eq_true rfl) ⟨Nat.le_of_ble_eq_true rfl, Nat.le_of_ble_eq_true rfl⟩ ⟨Nat.zero_le _, Nat.zero_le _⟩ dX7_drawnWay_61 rfl ?_
        refine g_iload_n C 65 2 dX7_drawnWay_64 rfl rfl ?_
        refine bnd h (fun x7 e7 h => ?_)
        refine g_callVr C 68 [] [.int x7] (ct_X6_waysPassed L (o 1) (q 1) (Z 1) x5 x6 v2 x7 e7) kX6_waysPassed kvX6_waysPassed wl_X7_201 6 0 rfl rfl rfl [1, 2, 3, 4, 5, 6, 7] rfl rfl rfl rfl rfl (Nat.le_of_ble_eq_true rfl) ⟨Nat.le_of_ble_eq_true rfl, Nat.le_of_ble_eq_true rfl⟩ ⟨Nat.zero_le _, Nat.zero_le _⟩ dX7_drawnWay_65 rfl ?_
        refine g_istore C 70 4 [(4, .int x7), (0, .ref (o 0)), (1, .int v1), (2, .int v2), (3, .int v3)] dX7_drawnWay_68 rfl 5 hNL (by decide) rfl ?_
        refine g_iload C 72 0 dX7_drawnWay_70 rfl rfl ?_
        refine bnd h (fun x8 e8 h => ?_)
        refine g_callSr C 75 [] [.int x8] (ct_J6_bitCount_0f7a4 L x7 x8 e8) kJ6_bitCount_0f7a4 kvJ6_bitCount_0f7a4 wl_X7_217 [] rfl rfl rfl rfl rfl (Nat.le_of_ble_eq_true rfl) ⟨Nat.le_of_ble_eq_true rfl, Nat.le_of_ble_eq_true rfl⟩ ⟨Nat.zero_le _, Nat.zero_le _⟩ dX7_drawnWay_72 rfl ?_
        refine g_i2l C 76 dX7_drawnWay_75 rfl ?_
        refine g_aload_n C 77 1 dX7_drawnWay_76 rfl rfl ?_
        refine g_get (v := .ref (o 1)) C 80 7 0 0 hin_7 rfl rfl (by decide) wf_X7_10 rfl dX7_drawnWay_77 rfl ?_
        refine g_get (v := .int ((Z 1).1 1)) C 83 6 1 1 hin_6 rfl rfl (by decide) wf_X7_222 rfl dX7_drawnWay_80 rfl ?_
        refine g_i2l C 84 dX7_drawnWay_83 rfl ?_
        refine g_iload_n C 85 4 dX7_drawnWay_84 rfl rfl ?_
        refine bnd h (fun x9 e9 h => ?_)
        refine g_callSr C 88 [] [.long x9] (ct_X7_partOf L ((x8).toInt64) ((((Z 1).1 1)).toInt64) v3 x9 e9) kX7_partOf kvX7_partOf wl_X7_225 [] rfl rfl rfl rfl rfl (Nat.le_of_ble_eq_true rfl) ⟨Nat.le_of_ble_eq_true rfl, Nat.le_of_ble_eq_true rfl⟩ ⟨Nat.zero_le _, Nat.zero_le _⟩ dX7_drawnWay_85 rfl ?_
        exact g_lret (st := []) C E dX7_drawnWay_88 (by obtain rfl := Option.some.inj h; exact ⟨rfl, rfl⟩)
      · have h := ifT c h
        refine g_aload_n C 32 0 dX7_drawnWay_31 rfl rfl ?_
        refine g_bipush C 34 (-2 : Int32) dX7_drawnWay_32 rfl rfl ?_
        refine bnd h (fun x10 e10 h => ?_)
        refine g_callVs (w' := (cells7 L o q x10.2)) C 37 [] [.long x10.1] (ct_X7_refuseLong L o q Z (-2 : Int32) x10 e10) kX7_refuseLong kvX7_refuseLong wl_X7_210 7 0 rfl rfl rfl rfl rfl rfl rfl (Nat.le_of_ble_eq_true rfl) ⟨Nat.le_of_ble_eq_true rfl, Nat.le_of_ble_eq_true rfl⟩ ⟨Nat.zero_le _, Nat.zero_le _⟩ dX7_drawnWay_34 rfl ?_
        exact g_lret (st := []) C E dX7_drawnWay_37 (by obtain rfl := Option.some.inj h; exact ⟨rfl, rfl⟩)
    · have h := ifT c h
      refine g_aload_n C 19 0 dX7_drawnWay_18 rfl rfl ?_
      refine g_iconst C 20 (-1 : Int32) dX7_drawnWay_19 rfl rfl ?_
      refine bnd h (fun x11 e11 h => ?_)
      refine g_callVs (w' := (cells7 L o q x11.2)) C 23 [] [.long x11.1] (ct_X7_refuseLong L o q Z (-1 : Int32) x11 e11) kX7_refuseLong kvX7_refuseLong wl_X7_210 7 0 rfl rfl rfl rfl rfl rfl rfl (Nat.le_of_ble_eq_true rfl) ⟨Nat.le_of_ble_eq_true rfl, Nat.le_of_ble_eq_true rfl⟩ ⟨Nat.zero_le _, Nat.zero_le _⟩ dX7_drawnWay_20 rfl ?_
      exact g_lret (st := []) C E dX7_drawnWay_23 (by obtain rfl := Option.some.inj h; exact ⟨rfl, rfl⟩)
set_option maxHeartbeats 4000000 in
set_option maxRecDepth 100000 in
theorem ct_X7_alike (L : LL) (o : Nat → Nat) (q : Nat → Nat → Nat) (Z : Nat → OS) (v1 : Int32) (v2 : Int32) (x : (Int32 × (Nat → OS))) (h : f_X7_alike Z v1 v2 = some x) : Ct L yX7_alike cX7_alike 3 (some .int) (rmk 2 0 0 43) 0 0 [.ref (o 0), .int v1, .int v2] (cells7 L o q Z) (Pv (some (.int x.1)) (cells7 L o q x.2)) := by
  refine g_enter (lv := [(0, .ref (o 0)), (1, .int v1), (2, .int v2)]) kX7_alike rfl rfl (Nat.le_of_ble_eq_true rfl) (fun Γ C E hNL => ?_)
  unfold f_X7_alike at h
  refine g_aload_n C 1 0 dX7_alike_0 rfl rfl ?_
  refine g_get (v := .ref (o 1)) C 4 7 0 0 hin_7 rfl rfl (by decide) wf_X7_10 rfl dX7_alike_1 rfl ?_
  refine g_iload_n C 5 1 dX7_alike_4 rfl rfl ?_
  refine bnd h (fun x1 e1 h => ?_)
  refine g_callVr C 8 [] [.int x1] (ct_X6_hasWay L (o 1) (q 1) (Z 1) v1 x1 e1) kX6_hasWay kvX6_hasWay wl_X7_164 6 0 rfl rfl rfl [1, 2, 3, 4, 5, 6, 7] rfl rfl rfl rfl rfl (Nat.le_of_ble_eq_true rfl) ⟨Nat.le_of_ble_eq_true rfl, Nat.le_of_ble_eq_true rfl⟩ ⟨Nat.zero_le _, Nat.zero_le _⟩ dX7_alike_5 rfl ?_
  refine g_if_eq C 27 11 dX7_alike_8 (by decide) rfl (fun c => ?_) (fun c => ?_)
  · have h := ifT c h
    refine g_aload_n C 28 0 dX7_alike_27 rfl rfl ?_
    refine g_iconst C 29 (-1 : Int32) dX7_alike_28 rfl rfl ?_
    refine bnd h (fun x2 e2 h => ?_)
    refine g_callVs (w' := (cells7 L o q x2.2)) C 32 [] [.int x2.1] (ct_X7_refuse L o q Z (-1 : Int32) x2 e2) kX7_refuse kvX7_refuse wl_X7_74 7 0 rfl rfl rfl rfl rfl rfl rfl (Nat.le_of_ble_eq_true rfl) ⟨Nat.le_of_ble_eq_true rfl, Nat.le_of_ble_eq_true rfl⟩ ⟨Nat.zero_le _, Nat.zero_le _⟩ dX7_alike_29 rfl ?_
    exact g_iret (st := []) C E dX7_alike_32 (by obtain rfl := Option.some.inj h; exact ⟨rfl, rfl⟩)
  · have h := ifF c h
    refine g_aload_n C 12 0 dX7_alike_11 rfl rfl ?_
    refine g_get (v := .ref (o 1)) C 15 7 0 0 hin_7 rfl rfl (by decide) wf_X7_10 rfl dX7_alike_12 rfl ?_
    refine g_iload_n C 16 2 dX7_alike_15 rfl rfl ?_
    refine bnd h (fun x3 e3 h => ?_)
    refine g_callVr C 19 [] [.int x3] (ct_X6_hasWay L (o 1) (q 1) (Z 1) v2 x3 e3) kX6_hasWay kvX6_hasWay wl_X7_164 6 0 rfl rfl rfl [1, 2, 3, 4, 5, 6, 7] rfl rfl rfl rfl rfl (Nat.le_of_ble_eq_true rfl) ⟨Nat.le_of_ble_eq_true rfl, Nat.le_of_ble_eq_true rfl⟩ ⟨Nat.zero_le _, Nat.zero_le _⟩ dX7_alike_16 rfl ?_
    refine g_if_eq C 27 22 dX7_alike_19 (by decide) rfl (fun c => ?_) (fun c => ?_)
    · have h := ifT c h
      refine g_aload_n C 28 0 dX7_alike_27 rfl rfl ?_
      refine g_iconst C 29 (-1 : Int32) dX7_alike_28 rfl rfl ?_
      refine bnd h (fun x4 e4 h => ?_)
      refine g_callVs (w' := (cells7 L o q x4.2)) C 32 [] [.int x4.1] (ct_X7_refuse L o q Z (-1 : Int32) x4 e4) kX7_refuse kvX7_refuse wl_X7_74 7 0 rfl rfl rfl rfl rfl rfl rfl (Nat.le_of_ble_eq_true rfl) ⟨Nat.le_of_ble_eq_true rfl, Nat.le_of_ble_eq_true rfl⟩ ⟨Nat.zero_le _, Nat.zero_le _⟩ dX7_alike_29 rfl ?_
      exact g_iret (st := []) C E dX7_alike_32 (by obtain rfl := Option.some.inj h; exact ⟨rfl, rfl⟩)
    · have h := ifF c h
      refine g_iload_n C 23 1 dX7_alike_22 rfl rfl ?_
      refine g_iload_n C 24 2 dX7_alike_23 rfl rfl ?_
      refine g_icmp_ne C 33 27 dX7_alike_24 (by decide) rfl (fun c => ?_) (fun c => ?_)
      · have h := ifF c h
        refine g_aload_n C 34 0 dX7_alike_33 rfl rfl ?_
        refine g_get (v := .ref (o 8)) C 37 7 0 6 hin_7 rfl rfl (by decide) wf_X7_48 rfl dX7_alike_34 rfl ?_
        refine g_iload_n C 38 1 dX7_alike_37 rfl rfl ?_
        refine g_iload_n C 39 2 dX7_alike_38 rfl rfl ?_
        refine bnd h (fun x5 e5 h => ?_)
        refine g_callVr C 42 [] [.int x5] (ct_X3_sharedBy L (o 8) (o 1) (q 1) (Z 1) v1 v2 x5 e5) kX3_sharedBy kvX3_sharedBy wl_X7_229 3 0 rfl rfl rfl [28, 1, 2, 3, 4, 5, 6, 7] rfl rfl rfl rfl rfl (Nat.le_of_ble_eq_true rfl) ⟨Nat.le_of_ble_eq_true rfl, Nat.le_of_ble_eq_true rfl⟩ ⟨Nat.zero_le _, Nat.zero_le _⟩ dX7_alike_39 rfl ?_
        exact g_iret (st := []) C E dX7_alike_42 (by obtain rfl := Option.some.inj h; exact ⟨rfl, rfl⟩)
      · have h := ifT c h
        refine g_aload_n C 28 0 dX7_alike_27 rfl rfl ?_
        refine g_iconst C 29 (-1 : Int32) dX7_alike_28 rfl rfl ?_
        refine bnd h (fun x6 e6 h => ?_)
        refine g_callVs (w' := (cells7 L o q x6.2)) C 32 [] [.int x6.1] (ct_X7_refuse L o q Z (-1 : Int32) x6 e6) kX7_refuse kvX7_refuse wl_X7_74 7 0 rfl rfl rfl rfl rfl rfl rfl (Nat.le_of_ble_eq_true rfl) ⟨Nat.le_of_ble_eq_true rfl, Nat.le_of_ble_eq_true rfl⟩ ⟨Nat.zero_le _, Nat.zero_le _⟩ dX7_alike_29 rfl ?_
        exact g_iret (st := []) C E dX7_alike_32 (by obtain rfl := Option.some.inj h; exact ⟨rfl, rfl⟩)
set_option maxHeartbeats 4000000 in
set_option maxRecDepth 100000 in
theorem ct_X7_mostAlike (L : LL) (o : Nat → Nat) (q : Nat → Nat → Nat) (Z : Nat → OS) (x : Int32) (h : f_X7_mostAlike Z = some x) : Ct L yX7_mostAlike cX7_mostAlike 1 (some .int) (rmk 3 0 0 68) 0 0 [.ref (o 0)] (cells7 L o q Z) (Pv (some (.int x)) (cells7 L o q Z)) := by
  refine g_enter (lv := [(0, .ref (o 0))]) kX7_mostAlike rfl rfl (Nat.le_of_ble_eq_true rfl) (fun Γ C E hNL => ?_)
  unfold f_X7_mostAlike at h
  refine g_aload_n C 1 0 dX7_mostAlike_0 rfl rfl ?_
  refine g_get (v := .ref (o 8)) C 4 7 0 6 hin_7 rfl rfl (by decide) wf_X7_48 rfl dX7_mostAlike_1 rfl ?_
  refine bnd h (fun x1 e1 h => ?_)
  refine g_callVr C 7 [] [.int x1] (ct_X3_mostAlikeTwo L (o 8) (o 1) (q 1) (Z 1) x1 e1) kX3_mostAlikeTwo kvX3_mostAlikeTwo wl_X7_232 3 0 rfl rfl rfl [28, 1, 2, 3, 4, 5, 6, 7] rfl rfl rfl rfl rfl (Nat.le_of_ble_eq_true rfl) ⟨Nat.le_of_ble_eq_true rfl, Nat.le_of_ble_eq_true rfl⟩ ⟨Nat.zero_le _, Nat.zero_le _⟩ dX7_mostAlike_4 rfl ?_
  exact g_iret (st := []) C E dX7_mostAlike_7 (by obtain rfl := Option.some.inj h; exact ⟨rfl, rfl⟩)
set_option maxHeartbeats 4000000 in
set_option maxRecDepth 100000 in
theorem ct_X7_fair (L : LL) (o : Nat → Nat) (q : Nat → Nat → Nat) (Z : Nat → OS) (v1 : Int32) (v2 : Int32) (x : (Int32 × (Nat → OS))) (h : f_X7_fair Z v1 v2 = some x) : Ct L yX7_fair cX7_fair 3 (some .int) (rmk 5 0 0 120) 0 0 [.ref (o 0), .int v1, .int v2] (cells7 L o q Z) (Pv (some (.int x.1)) (cells7 L o q x.2)) := by
  refine g_enter (lv := [(0, .ref (o 0)), (1, .int v1), (2, .int v2)]) kX7_fair rfl rfl (Nat.le_of_ble_eq_true rfl) (fun Γ C E hNL => ?_)
  unfold f_X7_fair at h
  refine g_iload_n C 1 1 dX7_fair_0 rfl rfl ?_
  refine bnd h (fun x1 e1 h => ?_)
  refine g_callSr C 4 [] [.int x1] (ct_X7_isHour L v1 x1 e1) kX7_isHour kvX7_isHour wl_X7_167 [] rfl rfl rfl rfl rfl (Nat.le_of_ble_eq_true rfl) ⟨Nat.le_of_ble_eq_true rfl, Nat.le_of_ble_eq_true rfl⟩ ⟨Nat.zero_le _, Nat.zero_le _⟩ dX7_fair_1 rfl ?_
  refine g_if_ne C 13 7 dX7_fair_4 (by decide) rfl (fun c => ?_) (fun c => ?_)
  · have h := ifF c h
    refine g_iload_n C 14 2 dX7_fair_13 rfl rfl ?_
    refine g_if_ge C 24 17 dX7_fair_14 (by decide) rfl (fun c => ?_) (fun c => ?_)
    · have h := ifT c h
      refine g_iload_n C 25 2 dX7_fair_24 rfl rfl ?_
      refine g_bipush C 27 (6 : Int32) dX7_fair_25 rfl rfl ?_
      refine g_icmp_le C 37 30 dX7_fair_27 (by decide) rfl (fun c => ?_) (fun c => ?_)
      · have h := ifT c h
        refine g_iload_n C 38 2 dX7_fair_37 rfl rfl ?_
        refine g_if_ne C 59 41 dX7_fair_38 (by decide) rfl (fun c => ?_) (fun c => ?_)
        · have h := ifF c h
          refine g_aload_n C 60 0 dX7_fair_59 rfl rfl ?_
          refine g_get (v := .ref (o 8)) C 63 7 0 6 hin_7 rfl rfl (by decide) wf_X7_48 rfl dX7_fair_60 rfl ?_
          refine g_iload_n C 64 1 dX7_fair_63 rfl rfl ?_
          refine g_iload_n C 65 2 dX7_fair_64 rfl rfl ?_
          refine bnd h (fun x2 e2 h => ?_)
          refine g_callVr C 68 [] [.int x2] (ct_X3_fairestSet L (o 8) (o 1) (q 1) (Z 1) v1 v2 x2 e2) kX3_fairestSet kvX3_fairestSet wl_X7_238 3 0 rfl rfl rfl [28, 1, 2, 3, 4, 5, 6, 7] rfl rfl rfl rfl rfl (Nat.le_of_ble_eq_true rfl) ⟨Nat.le_of_ble_eq_true rfl, Nat.le_of_ble_eq_true rfl⟩ ⟨Nat.zero_le _, Nat.zero_le _⟩ dX7_fair_65 rfl ?_
          exact g_iret (st := []) C E dX7_fair_68 (by obtain rfl := Option.some.inj h; exact ⟨rfl, rfl⟩)
        · have h := ifT c h
          refine g_aload_n C 42 0 dX7_fair_41 rfl rfl ?_
          refine g_get (v := .ref (o 8)) C 45 7 0 6 hin_7 rfl rfl (by decide) wf_X7_48 rfl dX7_fair_42 rfl ?_
          refine g_aload_n C 46 0 dX7_fair_45 rfl rfl ?_
          refine g_get (v := .ref (o 1)) C 49 7 0 0 hin_7 rfl rfl (by decide) wf_X7_10 rfl dX7_fair_46 rfl ?_
          refine bnd h (fun x3 e3 h => ?_)
          refine g_callVr C 52 [.ref (o 8)] [.int x3, .ref (o 8)] (ct_X6_allWays L (o 1) (q 1) (Z 1) x3 e3) kX6_allWays kvX6_allWays wl_X7_204 6 0 rfl rfl rfl [1, 2, 3, 4, 5, 6, 7] rfl rfl rfl rfl rfl (Nat.le_of_ble_eq_true rfl) ⟨Nat.le_of_ble_eq_true rfl, Nat.le_of_ble_eq_true rfl⟩ ⟨Nat.zero_le _, Nat.zero_le _⟩ dX7_fair_49 rfl ?_
          refine g_iload_n C 53 1 dX7_fair_52 rfl rfl ?_
          refine bnd h (fun x4 e4 h => ?_)
          refine g_callVr C 56 [] [.int x4] (ct_X3_apart L (o 8) (o 1) (q 1) (Z 1) x3 v1 x4 e4) kX3_apart kvX3_apart wl_X7_235 3 0 rfl rfl rfl [28, 1, 2, 3, 4, 5, 6, 7] rfl rfl rfl rfl rfl (Nat.le_of_ble_eq_true rfl) ⟨Nat.le_of_ble_eq_true rfl, Nat.le_of_ble_eq_true rfl⟩ ⟨Nat.zero_le _, Nat.zero_le _⟩ dX7_fair_53 rfl ?_
          refine g_goto C 68 dX7_fair_56 (by decide) ?_
          exact g_iret (st := []) C E dX7_fair_68 (by obtain rfl := Option.some.inj h; exact ⟨rfl, rfl⟩)
      · have h := ifF c h
        refine g_aload_n C 31 0 dX7_fair_30 rfl rfl ?_
        refine g_bipush C 33 (-6 : Int32) dX7_fair_31 rfl rfl ?_
        refine bnd h (fun x5 e5 h => ?_)
        refine g_callVs (w' := (cells7 L o q x5.2)) C 36 [] [.int x5.1] (ct_X7_refuse L o q Z (-6 : Int32) x5 e5) kX7_refuse kvX7_refuse wl_X7_74 7 0 rfl rfl rfl rfl rfl rfl rfl (Nat.le_of_ble_eq_true rfl) ⟨Nat.le_of_ble_eq_true rfl, Nat.le_of_ble_eq_true rfl⟩ ⟨Nat.zero_le _, Nat.zero_le _⟩ dX7_fair_33 rfl ?_
        exact g_iret (st := []) C E dX7_fair_36 (by obtain rfl := Option.some.inj h; exact ⟨rfl, rfl⟩)
    · have h := ifF c h
      refine g_aload_n C 18 0 dX7_fair_17 rfl rfl ?_
      refine g_bipush C 20 (-4 : Int32) dX7_fair_18 rfl rfl ?_
      refine bnd h (fun x6 e6 h => ?_)
      refine g_callVs (w' := (cells7 L o q x6.2)) C 23 [] [.int x6.1] (ct_X7_refuse L o q Z (-4 : Int32) x6 e6) kX7_refuse kvX7_refuse wl_X7_74 7 0 rfl rfl rfl rfl rfl rfl rfl (Nat.le_of_ble_eq_true rfl) ⟨Nat.le_of_ble_eq_true rfl, Nat.le_of_ble_eq_true rfl⟩ ⟨Nat.zero_le _, Nat.zero_le _⟩ dX7_fair_20 rfl ?_
      exact g_iret (st := []) C E dX7_fair_23 (by obtain rfl := Option.some.inj h; exact ⟨rfl, rfl⟩)
  · have h := ifT c h
    refine g_aload_n C 8 0 dX7_fair_7 rfl rfl ?_
    refine g_iconst C 9 (-1 : Int32) dX7_fair_8 rfl rfl ?_
    refine bnd h (fun x7 e7 h => ?_)
    refine g_callVs (w' := (cells7 L o q x7.2)) C 12 [] [.int x7.1] (ct_X7_refuse L o q Z (-1 : Int32) x7 e7) kX7_refuse kvX7_refuse wl_X7_74 7 0 rfl rfl rfl rfl rfl rfl rfl (Nat.le_of_ble_eq_true rfl) ⟨Nat.le_of_ble_eq_true rfl, Nat.le_of_ble_eq_true rfl⟩ ⟨Nat.zero_le _, Nat.zero_le _⟩ dX7_fair_9 rfl ?_
    exact g_iret (st := []) C E dX7_fair_12 (by obtain rfl := Option.some.inj h; exact ⟨rfl, rfl⟩)
set_option maxHeartbeats 4000000 in
set_option maxRecDepth 100000 in
theorem ct_X7_moped (L : LL) (o : Nat → Nat) (q : Nat → Nat → Nat) (Z : Nat → OS) (v1 : Int32) (v2 : Int32) (x : (Int32 × (Nat → OS))) (h : f_X7_moped Z v1 v2 = some x) : Ct L yX7_moped cX7_moped 3 (some .int) (rmk 3 0 0 66) 0 0 [.ref (o 0), .int v1, .int v2] (cells7 L o q Z) (Pv (some (.int x.1)) (cells7 L o q x.2)) := by
  refine g_enter (lv := [(0, .ref (o 0)), (1, .int v1), (2, .int v2)]) kX7_moped rfl rfl (Nat.le_of_ble_eq_true rfl) (fun Γ C E hNL => ?_)
  unfold f_X7_moped at h
  refine g_iload_n C 1 1 dX7_moped_0 rfl rfl ?_
  refine g_if_ge C 11 4 dX7_moped_1 (by decide) rfl (fun c => ?_) (fun c => ?_)
  · have h := ifT c h
    refine g_iload_n C 12 1 dX7_moped_11 rfl rfl ?_
    refine g_bipush C 14 (60 : Int32) dX7_moped_12 rfl rfl ?_
    refine g_icmp_le C 24 17 dX7_moped_14 (by decide) rfl (fun c => ?_) (fun c => ?_)
    · have h := ifT c h
      refine g_iload_n C 25 2 dX7_moped_24 rfl rfl ?_
      by_cases c0 : v2 = (0 : Int32)
      · have h := ifT c0 h
        refine g_lookup C 52 (27) dX7_moped_25 (by decide +kernel) (by rw [c0]; rfl) (by decide) ?_
        refine g_aload_n C 53 0 dX7_moped_52 rfl rfl ?_
        refine g_get (v := .ref (o 8)) C 56 7 0 6 hin_7 rfl rfl (by decide) wf_X7_48 rfl dX7_moped_53 rfl ?_
        refine g_iload_n C 57 1 dX7_moped_56 rfl rfl ?_
        refine bnd h (fun x1 e1 h => ?_)
        refine g_callVr C 60 [] [.int x1] (ct_X3_followed L (o 8) (o 1) (q 1) (Z 1) v1 x1 e1) kX3_followed kvX3_followed wl_X7_241 3 0 rfl rfl rfl [28, 1, 2, 3, 4, 5, 6, 7] rfl rfl rfl rfl rfl (Nat.le_of_ble_eq_true rfl) ⟨Nat.le_of_ble_eq_true rfl, Nat.le_of_ble_eq_true rfl⟩ ⟨Nat.zero_le _, Nat.zero_le _⟩ dX7_moped_57 rfl ?_
        exact g_iret (st := []) C E dX7_moped_60 (by obtain rfl := Option.some.inj h; exact ⟨rfl, rfl⟩)
      have h := ifF c0 h
      by_cases c1 : v2 = (1 : Int32)
      · have h := ifT c1 h
        refine g_lookup C 61 (36) dX7_moped_25 (by decide +kernel) (by rw [c1]; rfl) (by decide) ?_
        refine g_aload_n C 62 0 dX7_moped_61 rfl rfl ?_
        refine g_get (v := .ref (o 8)) C 65 7 0 6 hin_7 rfl rfl (by decide) wf_X7_48 rfl dX7_moped_62 rfl ?_
        refine bnd h (fun x2 e2 h => ?_)
        refine g_callVr C 68 [] [.int x2] (ct_X3_testsToFollow L (o 8) (o 1) (q 1) (Z 1) x2 e2) kX3_testsToFollow kvX3_testsToFollow wl_X7_244 3 0 rfl rfl rfl [28, 1, 2, 3, 4, 5, 6, 7] rfl rfl rfl rfl rfl (Nat.le_of_ble_eq_true rfl) ⟨Nat.le_of_ble_eq_true rfl, Nat.le_of_ble_eq_true rfl⟩ ⟨Nat.zero_le _, Nat.zero_le _⟩ dX7_moped_65 rfl ?_
        exact g_iret (st := []) C E dX7_moped_68 (by obtain rfl := Option.some.inj h; exact ⟨rfl, rfl⟩)
      have h := ifF c1 h
      refine g_lookup C 69 (44) dX7_moped_25 (by decide +kernel) (by refine (lv_osw c0 (by decide +kernel)).trans ?_; refine (lv_osw c1 (by decide +kernel)).trans ?_; rfl) (by decide) ?_
      refine g_aload_n C 70 0 dX7_moped_69 rfl rfl ?_
      refine g_bipush C 72 (-2 : Int32) dX7_moped_70 rfl rfl ?_
      refine bnd h (fun x3 e3 h => ?_)
      refine g_callVs (w' := (cells7 L o q x3.2)) C 75 [] [.int x3.1] (ct_X7_refuse L o q Z (-2 : Int32) x3 e3) kX7_refuse kvX7_refuse wl_X7_74 7 0 rfl rfl rfl rfl rfl rfl rfl (Nat.le_of_ble_eq_true rfl) ⟨Nat.le_of_ble_eq_true rfl, Nat.le_of_ble_eq_true rfl⟩ ⟨Nat.zero_le _, Nat.zero_le _⟩ dX7_moped_72 rfl ?_
      exact g_iret (st := []) C E dX7_moped_75 (by obtain rfl := Option.some.inj h; exact ⟨rfl, rfl⟩)
    · have h := ifF c h
      refine g_aload_n C 18 0 dX7_moped_17 rfl rfl ?_
      refine g_bipush C 20 (-6 : Int32) dX7_moped_18 rfl rfl ?_
      refine bnd h (fun x4 e4 h => ?_)
      refine g_callVs (w' := (cells7 L o q x4.2)) C 23 [] [.int x4.1] (ct_X7_refuse L o q Z (-6 : Int32) x4 e4) kX7_refuse kvX7_refuse wl_X7_74 7 0 rfl rfl rfl rfl rfl rfl rfl (Nat.le_of_ble_eq_true rfl) ⟨Nat.le_of_ble_eq_true rfl, Nat.le_of_ble_eq_true rfl⟩ ⟨Nat.zero_le _, Nat.zero_le _⟩ dX7_moped_20 rfl ?_
      exact g_iret (st := []) C E dX7_moped_23 (by obtain rfl := Option.some.inj h; exact ⟨rfl, rfl⟩)
  · have h := ifF c h
    refine g_aload_n C 5 0 dX7_moped_4 rfl rfl ?_
    refine g_bipush C 7 (-4 : Int32) dX7_moped_5 rfl rfl ?_
    refine bnd h (fun x5 e5 h => ?_)
    refine g_callVs (w' := (cells7 L o q x5.2)) C 10 [] [.int x5.1] (ct_X7_refuse L o q Z (-4 : Int32) x5 e5) kX7_refuse kvX7_refuse wl_X7_74 7 0 rfl rfl rfl rfl rfl rfl rfl (Nat.le_of_ble_eq_true rfl) ⟨Nat.le_of_ble_eq_true rfl, Nat.le_of_ble_eq_true rfl⟩ ⟨Nat.zero_le _, Nat.zero_le _⟩ dX7_moped_7 rfl ?_
    exact g_iret (st := []) C E dX7_moped_10 (by obtain rfl := Option.some.inj h; exact ⟨rfl, rfl⟩)
set_option maxHeartbeats 4000000 in
set_option maxRecDepth 100000 in
theorem ct_X7_made (L : LL) (o : Nat → Nat) (q : Nat → Nat → Nat) (Z : Nat → OS) (v1 : Int32) (v2 : Int32) (v3 : Int32) (x : (Int32 × (Nat → OS))) (h : f_X7_made Z v1 v2 v3 = some x) : Ct L yX7_made cX7_made 4 (some .int) (rmk 4 0 0 95) 0 0 [.ref (o 0), .int v1, .int v2, .int v3] (cells7 L o q Z) (Pv (some (.int x.1)) (cells7 L o q x.2)) := by
  refine g_enter (lv := [(0, .ref (o 0)), (1, .int v1), (2, .int v2), (3, .int v3)]) kX7_made rfl rfl (Nat.le_of_ble_eq_true rfl) (fun Γ C E hNL => ?_)
  unfold f_X7_made at h
  refine g_iload_n C 1 1 dX7_made_0 rfl rfl ?_
  refine g_if_lt C 13 4 dX7_made_1 (by decide) rfl (fun c => ?_) (fun c => ?_)
  · have h := ifT c h
    refine g_aload_n C 14 0 dX7_made_13 rfl rfl ?_
    refine g_bipush C 16 (-4 : Int32) dX7_made_14 rfl rfl ?_
    refine bnd h (fun x1 e1 h => ?_)
    refine g_callVs (w' := (cells7 L o q x1.2)) C 19 [] [.int x1.1] (ct_X7_refuse L o q Z (-4 : Int32) x1 e1) kX7_refuse kvX7_refuse wl_X7_74 7 0 rfl rfl rfl rfl rfl rfl rfl (Nat.le_of_ble_eq_true rfl) ⟨Nat.le_of_ble_eq_true rfl, Nat.le_of_ble_eq_true rfl⟩ ⟨Nat.zero_le _, Nat.zero_le _⟩ dX7_made_16 rfl ?_
    exact g_iret (st := []) C E dX7_made_19 (by obtain rfl := Option.some.inj h; exact ⟨rfl, rfl⟩)
  · have h := ifF c h
    refine g_iload_n C 5 2 dX7_made_4 rfl rfl ?_
    refine g_iconst C 6 (1 : Int32) dX7_made_5 rfl rfl ?_
    refine g_icmp_lt C 13 9 dX7_made_6 (by decide) rfl (fun c => ?_) (fun c => ?_)
    · have h := ifT c h
      refine g_aload_n C 14 0 dX7_made_13 rfl rfl ?_
      refine g_bipush C 16 (-4 : Int32) dX7_made_14 rfl rfl ?_
      refine bnd h (fun x2 e2 h => ?_)
      refine g_callVs (w' := (cells7 L o q x2.2)) C 19 [] [.int x2.1] (ct_X7_refuse L o q Z (-4 : Int32) x2 e2) kX7_refuse kvX7_refuse wl_X7_74 7 0 rfl rfl rfl rfl rfl rfl rfl (Nat.le_of_ble_eq_true rfl) ⟨Nat.le_of_ble_eq_true rfl, Nat.le_of_ble_eq_true rfl⟩ ⟨Nat.zero_le _, Nat.zero_le _⟩ dX7_made_16 rfl ?_
      exact g_iret (st := []) C E dX7_made_19 (by obtain rfl := Option.some.inj h; exact ⟨rfl, rfl⟩)
    · have h := ifF c h
      refine g_iload_n C 10 3 dX7_made_9 rfl rfl ?_
      refine g_if_ge C 20 13 dX7_made_10 (by decide) rfl (fun c => ?_) (fun c => ?_)
      · have h := ifT c h
        refine g_iload_n C 21 1 dX7_made_20 rfl rfl ?_
        refine g_bipush C 23 (64 : Int32) dX7_made_21 rfl rfl ?_
        refine g_icmp_ge C 38 26 dX7_made_23 (by decide) rfl (fun c => ?_) (fun c => ?_)
        · have h := ifT c h
          refine g_aload_n C 39 0 dX7_made_38 rfl rfl ?_
          refine g_bipush C 41 (-6 : Int32) dX7_made_39 rfl rfl ?_
          refine bnd h (fun x3 e3 h => ?_)
          refine g_callVs (w' := (cells7 L o q x3.2)) C 44 [] [.int x3.1] (ct_X7_refuse L o q Z (-6 : Int32) x3 e3) kX7_refuse kvX7_refuse wl_X7_74 7 0 rfl rfl rfl rfl rfl rfl rfl (Nat.le_of_ble_eq_true rfl) ⟨Nat.le_of_ble_eq_true rfl, Nat.le_of_ble_eq_true rfl⟩ ⟨Nat.zero_le _, Nat.zero_le _⟩ dX7_made_41 rfl ?_
          exact g_iret (st := []) C E dX7_made_44 (by obtain rfl := Option.some.inj h; exact ⟨rfl, rfl⟩)
        · have h := ifF c h
          refine g_iload_n C 27 2 dX7_made_26 rfl rfl ?_
          refine g_bipush C 29 (72 : Int32) dX7_made_27 rfl rfl ?_
          refine g_icmp_gt C 38 32 dX7_made_29 (by decide) rfl (fun c => ?_) (fun c => ?_)
          · have h := ifT c h
            refine g_aload_n C 39 0 dX7_made_38 rfl rfl ?_
            refine g_bipush C 41 (-6 : Int32) dX7_made_39 rfl rfl ?_
            refine bnd h (fun x4 e4 h => ?_)
            refine g_callVs (w' := (cells7 L o q x4.2)) C 44 [] [.int x4.1] (ct_X7_refuse L o q Z (-6 : Int32) x4 e4) kX7_refuse kvX7_refuse wl_X7_74 7 0 rfl rfl rfl rfl rfl rfl rfl (Nat.le_of_ble_eq_true rfl) ⟨Nat.le_of_ble_eq_true rfl, Nat.le_of_ble_eq_true rfl⟩ ⟨Nat.zero_le _, Nat.zero_le _⟩ dX7_made_41 rfl ?_
            exact g_iret (st := []) C E dX7_made_44 (by obtain rfl := Option.some.inj h; exact ⟨rfl, rfl⟩)
          · have h := ifF c h
            refine g_iload_n C 33 3 dX7_made_32 rfl rfl ?_
            refine g_bipush C 35 (99 : Int32) dX7_made_33 rfl rfl ?_
            refine g_icmp_le C 45 38 dX7_made_35 (by decide) rfl (fun c => ?_) (fun c => ?_)
            · have h := ifT c h
              refine g_aload_n C 46 0 dX7_made_45 rfl rfl ?_
              refine g_get (v := .ref (o 8)) C 49 7 0 6 hin_7 rfl rfl (by decide) wf_X7_48 rfl dX7_made_46 rfl ?_
              refine g_iload_n C 50 1 dX7_made_49 rfl rfl ?_
              refine g_iload_n C 51 2 dX7_made_50 rfl rfl ?_
              refine g_iload_n C 52 3 dX7_made_51 rfl rfl ?_
              refine bnd h (fun x5 e5 h => ?_)
              refine g_callVr C 55 [] [.int x5] (ct_X3_nearestSet L (o 8) (o 1) (q 1) (Z 1) v1 v2 v3 x5 e5) kX3_nearestSet kvX3_nearestSet wl_X7_247 3 0 rfl rfl rfl [28, 1, 2, 3, 4, 5, 6, 7] rfl rfl rfl rfl rfl (Nat.le_of_ble_eq_true rfl) ⟨Nat.le_of_ble_eq_true rfl, Nat.le_of_ble_eq_true rfl⟩ ⟨Nat.zero_le _, Nat.zero_le _⟩ dX7_made_52 rfl ?_
              exact g_iret (st := []) C E dX7_made_55 (by obtain rfl := Option.some.inj h; exact ⟨rfl, rfl⟩)
            · have h := ifF c h
              refine g_aload_n C 39 0 dX7_made_38 rfl rfl ?_
              refine g_bipush C 41 (-6 : Int32) dX7_made_39 rfl rfl ?_
              refine bnd h (fun x6 e6 h => ?_)
              refine g_callVs (w' := (cells7 L o q x6.2)) C 44 [] [.int x6.1] (ct_X7_refuse L o q Z (-6 : Int32) x6 e6) kX7_refuse kvX7_refuse wl_X7_74 7 0 rfl rfl rfl rfl rfl rfl rfl (Nat.le_of_ble_eq_true rfl) ⟨Nat.le_of_ble_eq_true rfl, Nat.le_of_ble_eq_true rfl⟩ ⟨Nat.zero_le _, Nat.zero_le _⟩ dX7_made_41 rfl ?_
              exact g_iret (st := []) C E dX7_made_44 (by obtain rfl := Option.some.inj h; exact ⟨rfl, rfl⟩)
      · have h := ifF c h
        refine g_aload_n C 14 0 dX7_made_13 rfl rfl ?_
        refine g_bipush C 16 (-4 : Int32) dX7_made_14 rfl rfl ?_
        refine bnd h (fun x7 e7 h => ?_)
        refine g_callVs (w' := (cells7 L o q x7.2)) C 19 [] [.int x7.1] (ct_X7_refuse L o q Z (-4 : Int32) x7 e7) kX7_refuse kvX7_refuse wl_X7_74 7 0 rfl rfl rfl rfl rfl rfl rfl (Nat.le_of_ble_eq_true rfl) ⟨Nat.le_of_ble_eq_true rfl, Nat.le_of_ble_eq_true rfl⟩ ⟨Nat.zero_le _, Nat.zero_le _⟩ dX7_made_16 rfl ?_
        exact g_iret (st := []) C E dX7_made_19 (by obtain rfl := Option.some.inj h; exact ⟨rfl, rfl⟩)
set_option maxHeartbeats 4000000 in
set_option maxRecDepth 100000 in
theorem ct_X7_unlike (L : LL) (o : Nat → Nat) (q : Nat → Nat → Nat) (Z : Nat → OS) (x : Int32) (h : f_X7_unlike Z = some x) : Ct L yX7_unlike cX7_unlike 1 (some .int) (rmk 4 0 0 92) 0 0 [.ref (o 0)] (cells7 L o q Z) (Pv (some (.int x)) (cells7 L o q Z)) := by
  refine g_enter (lv := [(0, .ref (o 0))]) kX7_unlike rfl rfl (Nat.le_of_ble_eq_true rfl) (fun Γ C E hNL => ?_)
  unfold f_X7_unlike at h
  refine g_aload_n C 1 0 dX7_unlike_0 rfl rfl ?_
  refine g_get (v := .ref (o 8)) C 4 7 0 6 hin_7 rfl rfl (by decide) wf_X7_48 rfl dX7_unlike_1 rfl ?_
  refine bnd h (fun x1 e1 h => ?_)
  refine g_callVr C 7 [] [.int x1] (ct_X3_mostUnlikeTwo L (o 8) (o 1) (q 1) (Z 1) x1 e1) kX3_mostUnlikeTwo kvX3_mostUnlikeTwo wl_X7_250 3 0 rfl rfl rfl [28, 1, 2, 3, 4, 5, 6, 7] rfl rfl rfl rfl rfl (Nat.le_of_ble_eq_true rfl) ⟨Nat.le_of_ble_eq_true rfl, Nat.le_of_ble_eq_true rfl⟩ ⟨Nat.zero_le _, Nat.zero_le _⟩ dX7_unlike_4 rfl ?_
  exact g_iret (st := []) C E dX7_unlike_7 (by obtain rfl := Option.some.inj h; exact ⟨rfl, rfl⟩)
set_option maxHeartbeats 4000000 in
set_option maxRecDepth 100000 in
theorem ct_X7_strict (L : LL) (o : Nat → Nat) (q : Nat → Nat → Nat) (Z : Nat → OS) (v1 : Int32) (v2 : Int32) (x : (Int32 × (Nat → OS))) (h : f_X7_strict Z v1 v2 = some x) : Ct L yX7_strict cX7_strict 3 (some .int) (rmk 7 0 0 160) 0 0 [.ref (o 0), .int v1, .int v2] (cells7 L o q Z) (Pv (some (.int x.1)) (cells7 L o q x.2)) := by
  refine g_enter (lv := [(0, .ref (o 0)), (1, .int v1), (2, .int v2)]) kX7_strict rfl rfl (Nat.le_of_ble_eq_true rfl) (fun Γ C E hNL => ?_)
  unfold f_X7_strict at h
  refine g_aload_n C 1 0 dX7_strict_0 rfl rfl ?_
  refine g_get (v := .ref (o 1)) C 4 7 0 0 hin_7 rfl rfl (by decide) wf_X7_10 rfl dX7_strict_1 rfl ?_
  refine g_iload_n C 5 1 dX7_strict_4 rfl rfl ?_
  refine bnd h (fun x1 e1 h => ?_)
  refine g_callVr C 8 [] [.int x1] (ct_X6_hasWay L (o 1) (q 1) (Z 1) v1 x1 e1) kX6_hasWay kvX6_hasWay wl_X7_164 6 0 rfl rfl rfl [1, 2, 3, 4, 5, 6, 7] rfl rfl rfl rfl rfl (Nat.le_of_ble_eq_true rfl) ⟨Nat.le_of_ble_eq_true rfl, Nat.le_of_ble_eq_true rfl⟩ ⟨Nat.zero_le _, Nat.zero_le _⟩ dX7_strict_5 rfl ?_
  refine g_if_ne C 17 11 dX7_strict_8 (by decide) rfl (fun c => ?_) (fun c => ?_)
  · have h := ifF c h
    refine g_iload_n C 18 2 dX7_strict_17 rfl rfl ?_
    refine g_if_lt C 26 21 dX7_strict_18 (by decide) rfl (fun c => ?_) (fun c => ?_)
    · have h := ifT c h
      refine g_aload_n C 27 0 dX7_strict_26 rfl rfl ?_
      refine g_bipush C 29 (-2 : Int32) dX7_strict_27 rfl rfl ?_
      refine bnd h (fun x2 e2 h => ?_)
      refine g_callVs (w' := (cells7 L o q x2.2)) C 32 [] [.int x2.1] (ct_X7_refuse L o q Z (-2 : Int32) x2 e2) kX7_refuse kvX7_refuse wl_X7_74 7 0 rfl rfl rfl rfl rfl rfl rfl (Nat.le_of_ble_eq_true rfl) ⟨Nat.le_of_ble_eq_true rfl, Nat.le_of_ble_eq_true rfl⟩ ⟨Nat.zero_le _, Nat.zero_le _⟩ dX7_strict_29 rfl ?_
      exact g_iret (st := []) C E dX7_strict_32 (by obtain rfl := Option.some.inj h; exact ⟨rfl, rfl⟩)
    · have h := ifF c h
      refine g_iload_n C 22 2 dX7_strict_21 rfl rfl ?_
      refine g_iconst C 23 (2 : Int32) dX7_strict_22 rfl rfl ?_
      refine g_icmp_le C 33 26 dX7_strict_23 (by decide) rfl (fun c => ?_) (fun c => ?_)
      · have h := ifT c h
        refine g_aload_n C 34 0 dX7_strict_33 rfl rfl ?_
        refine g_get (v := .ref (o 6)) C 37 7 0 5 hin_7 rfl rfl (by decide) wf_X7_41 rfl dX7_strict_34 rfl ?_
        refine bnd h (fun x3 e3 h => ?_)
        refine g_callVr C 40 [] [.int x3] (ct_X5_tellsWhoPassed L (o 6) (q 6) (o 1) (q 1) (Z 6) (Z 1) x3 e3) kX5_tellsWhoPassed kvX5_tellsWhoPassed wl_X7_253 5 0 rfl rfl rfl [26, 27, 1, 2, 3, 4, 5, 6, 7] rfl rfl rfl rfl rfl (Nat.le_of_ble_eq_true rfl) ⟨Nat.le_of_ble_eq_true rfl, Nat.le_of_ble_eq_true rfl⟩ ⟨Nat.zero_le _, Nat.zero_le _⟩ dX7_strict_37 rfl ?_
        refine g_if_ne C 50 43 dX7_strict_40 (by decide) rfl (fun c => ?_) (fun c => ?_)
        · have h := ifF c h
          refine g_iload_n C 51 2 dX7_strict_50 rfl rfl ?_
          by_cases c0 : v2 = (0 : Int32)
          · have h := ifT c0 h
            refine g_lookup C 76 (25) dX7_strict_51 (by decide +kernel) (by rw [c0]; rfl) (by decide) ?_
            refine g_aload_n C 77 0 dX7_strict_76 rfl rfl ?_
            refine g_get (v := .ref (o 6)) C 80 7 0 5 hin_7 rfl rfl (by decide) wf_X7_41 rfl dX7_strict_77 rfl ?_
            refine g_iload_n C 81 1 dX7_strict_80 rfl rfl ?_
            refine bnd h (fun x4 e4 h => ?_)
            refine g_callVr C 84 [] [.int x4] (ct_X5_limitsSo L (o 6) (q 6) (o 1) (q 1) (Z 6) (Z 1) v1 x4 e4) kX5_limitsSo kvX5_limitsSo wl_X7_257 5 0 rfl rfl rfl [26, 27, 1, 2, 3, 4, 5, 6, 7] rfl rfl rfl rfl rfl (Nat.le_of_ble_eq_true rfl) ⟨Nat.le_of_ble_eq_true rfl, Nat.le_of_ble_eq_true rfl⟩ ⟨Nat.zero_le _, Nat.zero_le _⟩ dX7_strict_81 rfl ?_
            exact g_iret (st := []) C E dX7_strict_84 (by obtain rfl := Option.some.inj h; exact ⟨rfl, rfl⟩)
          have h := ifF c0 h
          by_cases c1 : v2 = (1 : Int32)
          · have h := ifT c1 h
            refine g_lookup C 85 (34) dX7_strict_51 (by decide +kernel) (by rw [c1]; rfl) (by decide) ?_
            refine g_aload_n C 86 0 dX7_strict_85 rfl rfl ?_
            refine g_get (v := .ref (o 6)) C 89 7 0 5 hin_7 rfl rfl (by decide) wf_X7_41 rfl dX7_strict_86 rfl ?_
            refine g_iload_n C 90 1 dX7_strict_89 rfl rfl ?_
            refine bnd h (fun x5 e5 h => ?_)
            refine g_callVr C 93 [] [.int x5] (ct_X5_leastLimitSo L (o 6) (q 6) (o 1) (q 1) (Z 6) (Z 1) v1 x5 e5) kX5_leastLimitSo kvX5_leastLimitSo wl_X7_260 5 0 rfl rfl rfl [26, 27, 1, 2, 3, 4, 5, 6, 7] rfl rfl rfl rfl rfl (Nat.le_of_ble_eq_true rfl) ⟨Nat.le_of_ble_eq_true rfl, Nat.le_of_ble_eq_true rfl⟩ ⟨Nat.zero_le _, Nat.zero_le _⟩ dX7_strict_90 rfl ?_
            exact g_iret (st := []) C E dX7_strict_93 (by obtain rfl := Option.some.inj h; exact ⟨rfl, rfl⟩)
          have h := ifF c1 h
          refine g_lookup C 94 (43) dX7_strict_51 (by decide +kernel) (by refine (lv_osw c0 (by decide +kernel)).trans ?_; refine (lv_osw c1 (by decide +kernel)).trans ?_; rfl) (by decide) ?_
          refine g_aload_n C 95 0 dX7_strict_94 rfl rfl ?_
          refine g_get (v := .ref (o 6)) C 98 7 0 5 hin_7 rfl rfl (by decide) wf_X7_41 rfl dX7_strict_95 rfl ?_
          refine g_iload_n C 99 1 dX7_strict_98 rfl rfl ?_
          refine bnd h (fun x6 e6 h => ?_)
          refine g_callVr C 102 [] [.int x6] (ct_X5_hoursSo L (o 6) (q 6) (o 1) (q 1) (Z 6) (Z 1) v1 x6 e6) kX5_hoursSo kvX5_hoursSo wl_X7_263 5 0 rfl rfl rfl [26, 27, 1, 2, 3, 4, 5, 6, 7] rfl rfl rfl rfl rfl (Nat.le_of_ble_eq_true rfl) ⟨Nat.le_of_ble_eq_true rfl, Nat.le_of_ble_eq_true rfl⟩ ⟨Nat.zero_le _, Nat.zero_le _⟩ dX7_strict_99 rfl ?_
          exact g_iret (st := []) C E dX7_strict_102 (by obtain rfl := Option.some.inj h; exact ⟨rfl, rfl⟩)
        · have h := ifT c h
          refine g_aload_n C 44 0 dX7_strict_43 rfl rfl ?_
          refine g_bipush C 46 (-3 : Int32) dX7_strict_44 rfl rfl ?_
          refine bnd h (fun x7 e7 h => ?_)
          refine g_callVs (w' := (cells7 L o q x7.2)) C 49 [] [.int x7.1] (ct_X7_refuse L o q Z (-3 : Int32) x7 e7) kX7_refuse kvX7_refuse wl_X7_74 7 0 rfl rfl rfl rfl rfl rfl rfl (Nat.le_of_ble_eq_true rfl) ⟨Nat.le_of_ble_eq_true rfl, Nat.le_of_ble_eq_true rfl⟩ ⟨Nat.zero_le _, Nat.zero_le _⟩ dX7_strict_46 rfl ?_
          exact g_iret (st := []) C E dX7_strict_49 (by obtain rfl := Option.some.inj h; exact ⟨rfl, rfl⟩)
      · have h := ifF c h
        refine g_aload_n C 27 0 dX7_strict_26 rfl rfl ?_
        refine g_bipush C 29 (-2 : Int32) dX7_strict_27 rfl rfl ?_
        refine bnd h (fun x8 e8 h => ?_)
        refine g_callVs (w' := (cells7 L o q x8.2)) C 32 [] [.int x8.1] (ct_X7_refuse L o q Z (-2 : Int32) x8 e8) kX7_refuse kvX7_refuse wl_X7_74 7 0 rfl rfl rfl rfl rfl rfl rfl (Nat.le_of_ble_eq_true rfl) ⟨Nat.le_of_ble_eq_true rfl, Nat.le_of_ble_eq_true rfl⟩ ⟨Nat.zero_le _, Nat.zero_le _⟩ dX7_strict_29 rfl ?_
        exact g_iret (st := []) C E dX7_strict_32 (by obtain rfl := Option.some.inj h; exact ⟨rfl, rfl⟩)
  · have h := ifT c h
    refine g_aload_n C 12 0 dX7_strict_11 rfl rfl ?_
    refine g_iconst C 13 (-1 : Int32) dX7_strict_12 rfl rfl ?_
    refine bnd h (fun x9 e9 h => ?_)
    refine g_callVs (w' := (cells7 L o q x9.2)) C 16 [] [.int x9.1] (ct_X7_refuse L o q Z (-1 : Int32) x9 e9) kX7_refuse kvX7_refuse wl_X7_74 7 0 rfl rfl rfl rfl rfl rfl rfl (Nat.le_of_ble_eq_true rfl) ⟨Nat.le_of_ble_eq_true rfl, Nat.le_of_ble_eq_true rfl⟩ ⟨Nat.zero_le _, Nat.zero_le _⟩ dX7_strict_13 rfl ?_
    exact g_iret (st := []) C E dX7_strict_16 (by obtain rfl := Option.some.inj h; exact ⟨rfl, rfl⟩)
set_option maxHeartbeats 4000000 in
set_option maxRecDepth 100000 in
theorem ct_X7_queue (L : LL) (o : Nat → Nat) (q : Nat → Nat → Nat) (Z : Nat → OS) (v1 : Int32) (v2 : Int32) (x : (Int32 × (Nat → OS))) (h : f_X7_queue Z v1 v2 = some x) : Ct L yX7_queue cX7_queue 3 (some .int) (rmk 7 0 0 171) 0 0 [.ref (o 0), .int v1, .int v2] (cells7 L o q Z) (Pv (some (.int x.1)) (cells7 L o q x.2)) := by
  refine g_enter (lv := [(0, .ref (o 0)), (1, .int v1), (2, .int v2)]) kX7_queue rfl rfl (Nat.le_of_ble_eq_true rfl) (fun Γ C E hNL => ?_)
  unfold f_X7_queue at h
  refine g_aload_n C 1 0 dX7_queue_0 rfl rfl ?_
  refine g_get (v := .ref (o 1)) C 4 7 0 0 hin_7 rfl rfl (by decide) wf_X7_10 rfl dX7_queue_1 rfl ?_
  refine g_iload_n C 5 1 dX7_queue_4 rfl rfl ?_
  refine bnd h (fun x1 e1 h => ?_)
  refine g_callVr C 8 [] [.int x1] (ct_X6_hasWay L (o 1) (q 1) (Z 1) v1 x1 e1) kX6_hasWay kvX6_hasWay wl_X7_164 6 0 rfl rfl rfl [1, 2, 3, 4, 5, 6, 7] rfl rfl rfl rfl rfl (Nat.le_of_ble_eq_true rfl) ⟨Nat.le_of_ble_eq_true rfl, Nat.le_of_ble_eq_true rfl⟩ ⟨Nat.zero_le _, Nat.zero_le _⟩ dX7_queue_5 rfl ?_
  refine g_if_ne C 17 11 dX7_queue_8 (by decide) rfl (fun c => ?_) (fun c => ?_)
  · have h := ifF c h
    refine g_iload_n C 18 2 dX7_queue_17 rfl rfl ?_
    refine g_iconst C 19 (-1 : Int32) dX7_queue_18 rfl rfl ?_
    refine g_icmp_ge C 29 22 dX7_queue_19 (by decide) rfl (fun c => ?_) (fun c => ?_)
    · have h := ifT c h
      refine g_aload_n C 30 0 dX7_queue_29 rfl rfl ?_
      refine g_get (v := .ref (o 7)) C 33 7 0 8 hin_7 rfl rfl (by decide) wf_X7_62 rfl dX7_queue_30 rfl ?_
      refine g_iload_n C 34 1 dX7_queue_33 rfl rfl ?_
      refine g_iload_n C 35 2 dX7_queue_34 rfl rfl ?_
      refine bnd h (fun x2 e2 h => ?_)
      refine g_callVw (w' := (cells7 L o q (upA Z 7 x2.2))) C 38 [] [.int x2.1] (ct_X1_queued L (o 7) (q 7) (o 1) (q 1) (Z 7) (Z 1) v1 v2 x2 e2) kX1_queued kvX1_queued wl_X7_266 1 0 rfl rfl rfl [30, 31, 1, 2, 3, 4, 5, 6, 7] rfl rfl rfl rfl rfl rfl rfl (Nat.le_of_ble_eq_true rfl) ⟨Nat.le_of_ble_eq_true rfl, Nat.le_of_ble_eq_true rfl⟩ ⟨Nat.zero_le _, Nat.zero_le _⟩ dX7_queue_35 rfl ?_
      exact g_iret (st := []) C E dX7_queue_38 (by obtain rfl := Option.some.inj h; exact ⟨rfl, rfl⟩)
    · have h := ifF c h
      refine g_aload_n C 23 0 dX7_queue_22 rfl rfl ?_
      refine g_bipush C 25 (-4 : Int32) dX7_queue_23 rfl rfl ?_
      refine bnd h (fun x3 e3 h => ?_)
      refine g_callVs (w' := (cells7 L o q x3.2)) C 28 [] [.int x3.1] (ct_X7_refuse L o q Z (-4 : Int32) x3 e3) kX7_refuse kvX7_refuse wl_X7_74 7 0 rfl rfl rfl rfl rfl rfl rfl (Nat.le_of_ble_eq_true rfl) ⟨Nat.le_of_ble_eq_true rfl, Nat.le_of_ble_eq_true rfl⟩ ⟨Nat.zero_le _, Nat.zero_le _⟩ dX7_queue_25 rfl ?_
      exact g_iret (st := []) C E dX7_queue_28 (by obtain rfl := Option.some.inj h; exact ⟨rfl, rfl⟩)
  · have h := ifT c h
    refine g_aload_n C 12 0 dX7_queue_11 rfl rfl ?_
    refine g_iconst C 13 (-1 : Int32) dX7_queue_12 rfl rfl ?_
    refine bnd h (fun x4 e4 h => ?_)
    refine g_callVs (w' := (cells7 L o q x4.2)) C 16 [] [.int x4.1] (ct_X7_refuse L o q Z (-1 : Int32) x4 e4) kX7_refuse kvX7_refuse wl_X7_74 7 0 rfl rfl rfl rfl rfl rfl rfl (Nat.le_of_ble_eq_true rfl) ⟨Nat.le_of_ble_eq_true rfl, Nat.le_of_ble_eq_true rfl⟩ ⟨Nat.zero_le _, Nat.zero_le _⟩ dX7_queue_13 rfl ?_
    exact g_iret (st := []) C E dX7_queue_16 (by obtain rfl := Option.some.inj h; exact ⟨rfl, rfl⟩)
set_option maxHeartbeats 4000000 in
set_option maxRecDepth 100000 in
theorem ct_X7_lessons (L : LL) (o : Nat → Nat) (q : Nat → Nat → Nat) (Z : Nat → OS) (v1 : Int32) (v2 : Int32) (v3 : Int32) (x : (Int32 × (Nat → OS))) (h : f_X7_lessons Z v1 v2 v3 = some x) : Ct L yX7_lessons cX7_lessons 4 (some .int) (rmk 4 0 0 99) 0 0 [.ref (o 0), .int v1, .int v2, .int v3] (cells7 L o q Z) (Pv (some (.int x.1)) (cells7 L o q x.2)) := by
  refine g_enter (lv := [(0, .ref (o 0)), (1, .int v1), (2, .int v2), (3, .int v3)]) kX7_lessons rfl rfl (Nat.le_of_ble_eq_true rfl) (fun Γ C E hNL => ?_)
  unfold f_X7_lessons at h
  refine g_aload_n C 1 0 dX7_lessons_0 rfl rfl ?_
  refine g_get (v := .ref (o 1)) C 4 7 0 0 hin_7 rfl rfl (by decide) wf_X7_10 rfl dX7_lessons_1 rfl ?_
  refine g_iload_n C 5 1 dX7_lessons_4 rfl rfl ?_
  refine bnd h (fun x1 e1 h => ?_)
  refine g_callVr C 8 [] [.int x1] (ct_X6_hasLearner L (o 1) (q 1) (Z 1) v1 x1 e1) kX6_hasLearner kvX6_hasLearner wl_X7_120 6 0 rfl rfl rfl [1, 2, 3, 4, 5, 6, 7] rfl rfl rfl rfl rfl (Nat.le_of_ble_eq_true rfl) ⟨Nat.le_of_ble_eq_true rfl, Nat.le_of_ble_eq_true rfl⟩ ⟨Nat.zero_le _, Nat.zero_le _⟩ dX7_lessons_5 rfl ?_
  refine g_if_eq C 29 11 dX7_lessons_8 (by decide) rfl (fun c => ?_) (fun c => ?_)
  · have h := ifT c h
    refine g_aload_n C 30 0 dX7_lessons_29 rfl rfl ?_
    refine g_iconst C 31 (-1 : Int32) dX7_lessons_30 rfl rfl ?_
    refine bnd h (fun x2 e2 h => ?_)
    refine g_callVs (w' := (cells7 L o q x2.2)) C 34 [] [.int x2.1] (ct_X7_refuse L o q Z (-1 : Int32) x2 e2) kX7_refuse kvX7_refuse wl_X7_74 7 0 rfl rfl rfl rfl rfl rfl rfl (Nat.le_of_ble_eq_true rfl) ⟨Nat.le_of_ble_eq_true rfl, Nat.le_of_ble_eq_true rfl⟩ ⟨Nat.zero_le _, Nat.zero_le _⟩ dX7_lessons_31 rfl ?_
    exact g_iret (st := []) C E dX7_lessons_34 (by obtain rfl := Option.some.inj h; exact ⟨rfl, rfl⟩)
  · have h := ifF c h
    refine g_aload_n C 12 0 dX7_lessons_11 rfl rfl ?_
    refine g_get (v := .ref (o 1)) C 15 7 0 0 hin_7 rfl rfl (by decide) wf_X7_10 rfl dX7_lessons_12 rfl ?_
    refine g_iload_n C 16 2 dX7_lessons_15 rfl rfl ?_
    refine bnd h (fun x3 e3 h => ?_)
    refine g_callVr C 19 [] [.int x3] (ct_X6_hasWay L (o 1) (q 1) (Z 1) v2 x3 e3) kX6_hasWay kvX6_hasWay wl_X7_164 6 0 rfl rfl rfl [1, 2, 3, 4, 5, 6, 7] rfl rfl rfl rfl rfl (Nat.le_of_ble_eq_true rfl) ⟨Nat.le_of_ble_eq_true rfl, Nat.le_of_ble_eq_true rfl⟩ ⟨Nat.zero_le _, Nat.zero_le _⟩ dX7_lessons_16 rfl ?_
    refine g_if_eq C 29 22 dX7_lessons_19 (by decide) rfl (fun c => ?_) (fun c => ?_)
    · have h := ifT c h
      refine g_aload_n C 30 0 dX7_lessons_29 rfl rfl ?_
      refine g_iconst C 31 (-1 : Int32) dX7_lessons_30 rfl rfl ?_
      refine bnd h (fun x4 e4 h => ?_)
      refine g_callVs (w' := (cells7 L o q x4.2)) C 34 [] [.int x4.1] (ct_X7_refuse L o q Z (-1 : Int32) x4 e4) kX7_refuse kvX7_refuse wl_X7_74 7 0 rfl rfl rfl rfl rfl rfl rfl (Nat.le_of_ble_eq_true rfl) ⟨Nat.le_of_ble_eq_true rfl, Nat.le_of_ble_eq_true rfl⟩ ⟨Nat.zero_le _, Nat.zero_le _⟩ dX7_lessons_31 rfl ?_
      exact g_iret (st := []) C E dX7_lessons_34 (by obtain rfl := Option.some.inj h; exact ⟨rfl, rfl⟩)
    · have h := ifF c h
      refine g_iload_n C 23 3 dX7_lessons_22 rfl rfl ?_
      refine bnd h (fun x5 e5 h => ?_)
      refine g_callSr C 26 [] [.int x5] (ct_X7_isHour L v3 x5 e5) kX7_isHour kvX7_isHour wl_X7_167 [] rfl rfl rfl rfl rfl (Nat.le_of_ble_eq_true rfl) ⟨Nat.le_of_ble_eq_true rfl, Nat.le_of_ble_eq_true rfl⟩ ⟨Nat.zero_le _, Nat.zero_le _⟩ dX7_lessons_23 rfl ?_
      refine g_if_ne C 35 29 dX7_lessons_26 (by decide) rfl (fun c => ?_) (fun c => ?_)
      · have h := ifF c h
        refine g_aload_n C 36 0 dX7_lessons_35 rfl rfl ?_
        refine g_get (v := .ref (o 9)) C 39 7 0 7 hin_7 rfl rfl (by decide) wf_X7_55 rfl dX7_lessons_36 rfl ?_
        refine g_iload_n C 40 1 dX7_lessons_39 rfl rfl ?_
        refine g_iload_n C 41 2 dX7_lessons_40 rfl rfl ?_
        refine g_iload_n C 42 3 dX7_lessons_41 rfl rfl ?_
        refine bnd h (fun x6 e6 h => ?_)
        refine g_callVr C 45 [] [.int x6] (ct_X2_lessonsToPass L (o 9) (o 1) (q 1) (Z 1) v1 v2 v3 x6 e6) kX2_lessonsToPass kvX2_lessonsToPass wl_X7_269 2 0 rfl rfl rfl [29, 1, 2, 3, 4, 5, 6, 7] rfl rfl rfl rfl rfl (Nat.le_of_ble_eq_true rfl) ⟨Nat.le_of_ble_eq_true rfl, Nat.le_of_ble_eq_true rfl⟩ ⟨Nat.zero_le _, Nat.zero_le _⟩ dX7_lessons_42 rfl ?_
        exact g_iret (st := []) C E dX7_lessons_45 (by obtain rfl := Option.some.inj h; exact ⟨rfl, rfl⟩)
      · have h := ifT c h
        refine g_aload_n C 30 0 dX7_lessons_29 rfl rfl ?_
        refine g_iconst C 31 (-1 : Int32) dX7_lessons_30 rfl rfl ?_
        refine bnd h (fun x7 e7 h => ?_)
        refine g_callVs (w' := (cells7 L o q x7.2)) C 34 [] [.int x7.1] (ct_X7_refuse L o q Z (-1 : Int32) x7 e7) kX7_refuse kvX7_refuse wl_X7_74 7 0 rfl rfl rfl rfl rfl rfl rfl (Nat.le_of_ble_eq_true rfl) ⟨Nat.le_of_ble_eq_true rfl, Nat.le_of_ble_eq_true rfl⟩ ⟨Nat.zero_le _, Nat.zero_le _⟩ dX7_lessons_31 rfl ?_
        exact g_iret (st := []) C E dX7_lessons_34 (by obtain rfl := Option.some.inj h; exact ⟨rfl, rfl⟩)
set_option maxHeartbeats 4000000 in
set_option maxRecDepth 100000 in
theorem ct_X7_ball (L : LL) (o : Nat → Nat) (q : Nat → Nat → Nat) (Z : Nat → OS) (v1 : Int32) (v2 : Int32) (v3 : Int32) (v4 : Int32) (x : (Int64 × (Nat → OS))) (h : f_X7_ball Z v1 v2 v3 v4 = some x) : Ct L yX7_ball cX7_ball 6 (some .long) (rmk 5 0 0 122) 0 0 [.ref (o 0), .int v1, .int v2, .int v3, .int v4] (cells7 L o q Z) (Pv (some (.long x.1)) (cells7 L o q x.2)) := by
  refine g_enter (lv := [(0, .ref (o 0)), (1, .int v1), (2, .int v2), (3, .int v3), (4, .int v4)]) kX7_ball rfl rfl (Nat.le_of_ble_eq_true rfl) (fun Γ C E hNL => ?_)
  unfold f_X7_ball at h
  refine g_aload_n C 1 0 dX7_ball_0 rfl rfl ?_
  refine g_get (v := .ref (o 1)) C 4 7 0 0 hin_7 rfl rfl (by decide) wf_X7_10 rfl dX7_ball_1 rfl ?_
  refine g_iload_n C 5 1 dX7_ball_4 rfl rfl ?_
  refine bnd h (fun x1 e1 h => ?_)
  refine g_callVr C 8 [] [.int x1] (ct_X6_hasLearner L (o 1) (q 1) (Z 1) v1 x1 e1) kX6_hasLearner kvX6_hasLearner wl_X7_120 6 0 rfl rfl rfl [1, 2, 3, 4, 5, 6, 7] rfl rfl rfl rfl rfl (Nat.le_of_ble_eq_true rfl) ⟨Nat.le_of_ble_eq_true rfl, Nat.le_of_ble_eq_true rfl⟩ ⟨Nat.zero_le _, Nat.zero_le _⟩ dX7_ball_5 rfl ?_
  refine g_if_eq C 22 11 dX7_ball_8 (by decide) rfl (fun c => ?_) (fun c => ?_)
  · have h := ifT c h
    refine g_aload_n C 23 0 dX7_ball_22 rfl rfl ?_
    refine g_iconst C 24 (-1 : Int32) dX7_ball_23 rfl rfl ?_
    refine bnd h (fun x2 e2 h => ?_)
    refine g_callVs (w' := (cells7 L o q x2.2)) C 27 [] [.long x2.1] (ct_X7_refuseLong L o q Z (-1 : Int32) x2 e2) kX7_refuseLong kvX7_refuseLong wl_X7_210 7 0 rfl rfl rfl rfl rfl rfl rfl (Nat.le_of_ble_eq_true rfl) ⟨Nat.le_of_ble_eq_true rfl, Nat.le_of_ble_eq_true rfl⟩ ⟨Nat.zero_le _, Nat.zero_le _⟩ dX7_ball_24 rfl ?_
    exact g_lret (st := []) C E dX7_ball_27 (by obtain rfl := Option.some.inj h; exact ⟨rfl, rfl⟩)
  · have h := ifF c h
    refine g_aload_n C 12 0 dX7_ball_11 rfl rfl ?_
    refine g_get (v := .ref (o 1)) C 15 7 0 0 hin_7 rfl rfl (by decide) wf_X7_10 rfl dX7_ball_12 rfl ?_
    refine g_iload_n C 16 2 dX7_ball_15 rfl rfl ?_
    refine bnd h (fun x3 e3 h => ?_)
    refine g_callVr C 19 [] [.int x3] (ct_X6_hasWay L (o 1) (q 1) (Z 1) v2 x3 e3) kX6_hasWay kvX6_hasWay wl_X7_164 6 0 rfl rfl rfl [1, 2, 3, 4, 5, 6, 7] rfl rfl rfl rfl rfl (Nat.le_of_ble_eq_true rfl) ⟨Nat.le_of_ble_eq_true rfl, Nat.le_of_ble_eq_true rfl⟩ ⟨Nat.zero_le _, Nat.zero_le _⟩ dX7_ball_16 rfl ?_
    refine g_if_ne C 28 22 dX7_ball_19 (by decide) rfl (fun c => ?_) (fun c => ?_)
    · have h := ifF c h
      refine g_iload_n C 29 3 dX7_ball_28 rfl rfl ?_
      refine g_iconst C 30 (2 : Int32) dX7_ball_29 rfl rfl ?_
      refine g_icmp_ge C 40 33 dX7_ball_30 (by decide) rfl (fun c => ?_) (fun c => ?_)
      · have h := ifT c h
        refine g_iload_n C 41 3 dX7_ball_40 rfl rfl ?_
        refine g_bipush C 43 (20 : Int32) dX7_ball_41 rfl rfl ?_
        refine g_icmp_le C 53 46 dX7_ball_43 (by decide) rfl (fun c => ?_) (fun c => ?_)
        · have h := ifT c h
          refine g_iload C 55 4 dX7_ball_53 rfl rfl ?_
          refine bnd h (fun x4 e4 h => ?_)
          refine g_callSr C 58 [] [.int x4] (ct_X7_isEither L v4 x4 e4) kX7_isEither kvX7_isEither wl_X7_214 [] rfl rfl rfl rfl rfl (Nat.le_of_ble_eq_true rfl) ⟨Nat.le_of_ble_eq_true rfl, Nat.le_of_ble_eq_true rfl⟩ ⟨Nat.zero_le _, Nat.zero_le _⟩ dX7_ball_55 rfl ?_
          refine g_if_ne C 68 61 dX7_ball_58 (by decide) rfl (fun c => ?_) (fun c => ?_)
          · have h := ifF c h
            refine g_aload_n C 69 0 dX7_ball_68 rfl rfl ?_
            refine g_get (v := .ref (o 1)) C 72 7 0 0 hin_7 rfl rfl (by decide) wf_X7_10 rfl dX7_ball_69 rfl ?_
            refine g_get (v := .ref ((q 1) 9)) C 75 6 1 9 hin_6 rfl rfl (by decide) wf_X7_170 rfl dX7_ball_72 rfl ?_
            refine g_iload_n C 76 2 dX7_ball_75 rfl rfl ?_
            refine bnd h (fun x5 e5 h => ?_)
            refine g_callSr C 79 [] [.int x5] (ct_X7_at L ((q 1) 9) 6 ((Z 1).2 9) v2 x5 e5) kX7_at kvX7_at wl_X7_100 [5] rfl rfl rfl rfl rfl (Nat.le_of_ble_eq_true rfl) ⟨Nat.le_of_ble_eq_true rfl, Nat.le_of_ble_eq_true rfl⟩ ⟨Nat.zero_le _, Nat.zero_le _⟩ dX7_ball_76 rfl ?_
            refine bnd h (fun x6 e6 h => ?_)
            refine g_callSr C 82 [] [.int x6] (ct_J6_bitCount_0f7a4 L x5 x6 e6) kJ6_bitCount_0f7a4 kvJ6_bitCount_0f7a4 wl_X7_217 [] rfl rfl rfl rfl rfl (Nat.le_of_ble_eq_true rfl) ⟨Nat.le_of_ble_eq_true rfl, Nat.le_of_ble_eq_true rfl⟩ ⟨Nat.zero_le _, Nat.zero_le _⟩ dX7_ball_79 rfl ?_
            refine g_istore C 84 5 [(5, .int x6), (0, .ref (o 0)), (1, .int v1), (2, .int v2), (3, .int v3), (4, .int v4)] dX7_ball_82 rfl 6 hNL (by decide) rfl ?_
            refine g_aload_n C 85 1 dX7_ball_84 rfl rfl ?_
            refine g_get (v := .ref (o 9)) C 88 7 0 7 hin_7 rfl rfl (by decide) wf_X7_55 rfl dX7_ball_85 rfl ?_
            refine g_iload_n C 89 2 dX7_ball_88 rfl rfl ?_
            refine g_iload_n C 90 3 dX7_ball_89 rfl rfl ?_
            refine g_iload_n C 91 4 dX7_ball_90 rfl rfl ?_
            refine bnd h (fun x7 e7 h => ?_)
            refine g_callVr C 94 [] [.long x7] (ct_X2_chancesWithBalls L (o 9) (o 1) (q 1) (Z 1) v1 v2 v3 x7 e7) kX2_chancesWithBalls kvX2_chancesWithBalls wl_X7_272 2 0 rfl rfl rfl [29, 1, 2, 3, 4, 5, 6, 7] rfl rfl rfl rfl rfl (Nat.le_of_ble_eq_true rfl) ⟨Nat.le_of_ble_eq_true rfl, Nat.le_of_ble_eq_true rfl⟩ ⟨Nat.zero_le _, Nat.zero_le _⟩ dX7_ball_91 rfl ?_
            refine g_iload_n C 95 4 dX7_ball_94 rfl rfl ?_
            refine g_iload C 97 0 dX7_ball_95 rfl rfl ?_
            refine bnd h (fun x8 e8 h => ?_)
            refine g_callSr C 100 [.long x7] [.long x8, .long x7] (ct_X7_power L v3 x6 x8 e8) kX7_power kvX7_power wl_X7_276 [] rfl rfl rfl rfl rfl (Nat.le_of_ble_eq_true rfl) ⟨Nat.le_of_ble_eq_true rfl, Nat.le_of_ble_eq_true rfl⟩ ⟨Nat.zero_le _, Nat.zero_le _⟩ dX7_ball_97 rfl ?_
            refine g_iload C 102 5 dX7_ball_100 rfl rfl ?_
            refine bnd h (fun x9 e9 h => ?_)
            refine g_callSr C 105 [] [.long x9] (ct_X7_partOf L x7 x8 v4 x9 e9) kX7_partOf kvX7_partOf wl_X7_225 [] rfl rfl rfl rfl rfl (Nat.le_of_ble_eq_true rfl) ⟨Nat.le_of_ble_eq_true rfl, Nat.le_of_ble_eq_true rfl⟩ ⟨Nat.zero_le _, Nat.zero_le _⟩ dX7_ball_102 rfl ?_
            exact g_lret (st := []) C E dX7_ball_105 (by obtain rfl := Option.some.inj h; exact ⟨rfl, rfl⟩)
          · have h := ifT c h
            refine g_aload_n C 62 0 dX7_ball_61 rfl rfl ?_
            refine g_bipush C 64 (-2 : Int32) dX7_ball_62 rfl rfl ?_
            refine bnd h (fun x10 e10 h => ?_)
            refine g_callVs (w' := (cells7 L o q x10.2)) C 67 [] [.long x10.1] (ct_X7_refuseLong L o q Z (-2 : Int32) x10 e10) kX7_refuseLong kvX7_refuseLong wl_X7_210 7 0 rfl rfl rfl rfl rfl rfl rfl (Nat.le_of_ble_eq_true rfl) ⟨Nat.le_of_ble_eq_true rfl, Nat.le_of_ble_eq_true rfl⟩ ⟨Nat.zero_le _, Nat.zero_le _⟩ dX7_ball_64 rfl ?_
            exact g_lret (st := []) C E dX7_ball_67 (by obtain rfl := Option.some.inj h; exact ⟨rfl, rfl⟩)
        · have h := ifF c h
          refine g_aload_n C 47 0 dX7_ball_46 rfl rfl ?_
          refine g_bipush C 49 (-6 : Int32) dX7_ball_47 rfl rfl ?_
          refine bnd h (fun x11 e11 h => ?_)
          refine g_callVs (w' := (cells7 L o q x11.2)) C 52 [] [.long x11.1] (ct_X7_refuseLong L o q Z (-6 : Int32) x11 e11) kX7_refuseLong kvX7_refuseLong wl_X7_210 7 0 rfl rfl rfl rfl rfl rfl rfl (Nat.le_of_ble_eq_true rfl) ⟨Nat.le_of_ble_eq_true rfl, Nat.le_of_ble_eq_true rfl⟩ ⟨Nat.zero_le _, Nat.zero_le _⟩ dX7_ball_49 rfl ?_
          exact g_lret (st := []) C E dX7_ball_52 (by obtain rfl := Option.some.inj h; exact ⟨rfl, rfl⟩)
      · have h := ifF c h
        refine g_aload_n C 34 0 dX7_ball_33 rfl rfl ?_
        refine g_bipush C 36 (-4 : Int32) dX7_ball_34 rfl rfl ?_
        refine bnd h (fun x12 e12 h => ?_)
        refine g_callVs (w' := (cells7 L o q x12.2)) C 39 [] [.long x12.1] (ct_X7_refuseLong L o q Z (-4 : Int32) x12 e12) kX7_refuseLong kvX7_refuseLong wl_X7_210 7 0 rfl rfl rfl rfl rfl rfl rfl (Nat.le_of_ble_eq_true rfl) ⟨Nat.le_of_ble_eq_true rfl, Nat.le_of_ble_eq_true rfl⟩ ⟨Nat.zero_le _, Nat.zero_le _⟩ dX7_ball_36 rfl ?_
        exact g_lret (st := []) C E dX7_ball_39 (by obtain rfl := Option.some.inj h; exact ⟨rfl, rfl⟩)
    · have h := ifT c h
      refine g_aload_n C 23 0 dX7_ball_22 rfl rfl ?_
      refine g_iconst C 24 (-1 : Int32) dX7_ball_23 rfl rfl ?_
      refine bnd h (fun x13 e13 h => ?_)
      refine g_callVs (w' := (cells7 L o q x13.2)) C 27 [] [.long x13.1] (ct_X7_refuseLong L o q Z (-1 : Int32) x13 e13) kX7_refuseLong kvX7_refuseLong wl_X7_210 7 0 rfl rfl rfl rfl rfl rfl rfl (Nat.le_of_ble_eq_true rfl) ⟨Nat.le_of_ble_eq_true rfl, Nat.le_of_ble_eq_true rfl⟩ ⟨Nat.zero_le _, Nat.zero_le _⟩ dX7_ball_24 rfl ?_
      exact g_lret (st := []) C E dX7_ball_27 (by obtain rfl := Option.some.inj h; exact ⟨rfl, rfl⟩)
set_option maxHeartbeats 4000000 in
set_option maxRecDepth 100000 in
theorem ct_X7_crowded (L : LL) (o : Nat → Nat) (q : Nat → Nat → Nat) (Z : Nat → OS) (v1 : Int32) (x : (Int32 × (Nat → OS))) (h : f_X7_crowded Z v1 = some x) : Ct L yX7_crowded cX7_crowded 2 (some .int) (rmk 3 0 0 68) 0 0 [.ref (o 0), .int v1] (cells7 L o q Z) (Pv (some (.int x.1)) (cells7 L o q x.2)) := by
  refine g_enter (lv := [(0, .ref (o 0)), (1, .int v1)]) kX7_crowded rfl rfl (Nat.le_of_ble_eq_true rfl) (fun Γ C E hNL => ?_)
  unfold f_X7_crowded at h
  refine g_iload_n C 1 1 dX7_crowded_0 rfl rfl ?_
  by_cases c0 : v1 = (0 : Int32)
  · have h := ifT c0 h
    refine g_tabIn C 28 (27) dX7_crowded_1 (by rw [c0]; decide) (by rw [c0]; decide) (by rw [c0]; rfl) (by decide) ?_
    refine g_aload_n C 29 0 dX7_crowded_28 rfl rfl ?_
    refine g_get (v := .ref (o 8)) C 32 7 0 6 hin_7 rfl rfl (by decide) wf_X7_48 rfl dX7_crowded_29 rfl ?_
    refine bnd h (fun x1 e1 h => ?_)
    refine g_callVr C 35 [] [.int x1] (ct_X3_mostCrowded L (o 8) (o 1) (q 1) (Z 1) x1 e1) kX3_mostCrowded kvX3_mostCrowded wl_X7_280 3 0 rfl rfl rfl [28, 1, 2, 3, 4, 5, 6, 7] rfl rfl rfl rfl rfl (Nat.le_of_ble_eq_true rfl) ⟨Nat.le_of_ble_eq_true rfl, Nat.le_of_ble_eq_true rfl⟩ ⟨Nat.zero_le _, Nat.zero_le _⟩ dX7_crowded_32 rfl ?_
    exact g_iret (st := []) C E dX7_crowded_35 (by obtain rfl := Option.some.inj h; exact ⟨rfl, rfl⟩)
  have h := ifF c0 h
  by_cases c1 : v1 = (1 : Int32)
  · have h := ifT c1 h
    refine g_tabIn C 36 (35) dX7_crowded_1 (by rw [c1]; decide) (by rw [c1]; decide) (by rw [c1]; rfl) (by decide) ?_
    refine g_aload_n C 37 0 dX7_crowded_36 rfl rfl ?_
    refine g_get (v := .ref (o 8)) C 40 7 0 6 hin_7 rfl rfl (by decide) wf_X7_48 rfl dX7_crowded_37 rfl ?_
    refine g_aload_n C 41 0 dX7_crowded_40 rfl rfl ?_
    refine g_get (v := .ref (o 8)) C 44 7 0 6 hin_7 rfl rfl (by decide) wf_X7_48 rfl dX7_crowded_41 rfl ?_
    refine bnd h (fun x2 e2 h => ?_)
    refine g_callVr C 47 [.ref (o 8)] [.int x2, .ref (o 8)] (ct_X3_mostCrowded L (o 8) (o 1) (q 1) (Z 1) x2 e2) kX3_mostCrowded kvX3_mostCrowded wl_X7_280 3 0 rfl rfl rfl [28, 1, 2, 3, 4, 5, 6, 7] rfl rfl rfl rfl rfl (Nat.le_of_ble_eq_true rfl) ⟨Nat.le_of_ble_eq_true rfl, Nat.le_of_ble_eq_true rfl⟩ ⟨Nat.zero_le _, Nat.zero_le _⟩ dX7_crowded_44 rfl ?_
    refine bnd h (fun x3 e3 h => ?_)
    refine g_callVr C 50 [] [.int x3] (ct_X3_waysThrough L (o 8) (o 1) (q 1) (Z 1) x2 x3 e3) kX3_waysThrough kvX3_waysThrough wl_X7_283 3 0 rfl rfl rfl [28, 1, 2, 3, 4, 5, 6, 7] rfl rfl rfl rfl rfl (Nat.le_of_ble_eq_true rfl) ⟨Nat.le_of_ble_eq_true rfl, Nat.le_of_ble_eq_true rfl⟩ ⟨Nat.zero_le _, Nat.zero_le _⟩ dX7_crowded_47 rfl ?_
    exact g_iret (st := []) C E dX7_crowded_50 (by obtain rfl := Option.some.inj h; exact ⟨rfl, rfl⟩)
  have h := ifF c1 h
  by_cases c2 : v1 = (2 : Int32)
  · have h := ifT c2 h
    refine g_tabIn C 51 (50) dX7_crowded_1 (by rw [c2]; decide) (by rw [c2]; decide) (by rw [c2]; rfl) (by decide) ?_
    refine g_aload_n C 52 0 dX7_crowded_51 rfl rfl ?_
    refine g_get (v := .ref (o 1)) C 55 7 0 0 hin_7 rfl rfl (by decide) wf_X7_10 rfl dX7_crowded_52 rfl ?_
    refine bnd h (fun x4 e4 h => ?_)
    refine g_callVr C 58 [] [.int x4] (ct_X6_allStreets L (o 1) (q 1) (Z 1) x4 e4) kX6_allStreets kvX6_allStreets wl_X7_286 6 0 rfl rfl rfl [1, 2, 3, 4, 5, 6, 7] rfl rfl rfl rfl rfl (Nat.le_of_ble_eq_true rfl) ⟨Nat.le_of_ble_eq_true rfl, Nat.le_of_ble_eq_true rfl⟩ ⟨Nat.zero_le _, Nat.zero_le _⟩ dX7_crowded_55 rfl ?_
    refine g_aload_n C 59 0 dX7_crowded_58 rfl rfl ?_
    refine g_get (v := .ref (o 8)) C 62 7 0 6 hin_7 rfl rfl (by decide) wf_X7_48 rfl dX7_crowded_59 rfl ?_
    refine g_aload_n C 63 0 dX7_crowded_62 rfl rfl ?_
    refine g_get (v := .ref (o 1)) C 66 7 0 0 hin_7 rfl rfl (by decide) wf_X7_10 rfl dX7_crowded_63 rfl ?_
    refine g_get (v := .int ((Z 1).1 1)) C 69 6 1 1 hin_6 rfl rfl (by decide) wf_X7_222 rfl dX7_crowded_66 rfl ?_
    refine bnd h (fun x5 e5 h => ?_)
    refine g_callVr C 72 [.int x4] [.int x5, .int x4] (ct_X3_followed L (o 8) (o 1) (q 1) (Z 1) ((Z 1).1 1) x5 e5) kX3_followed kvX3_followed wl_X7_241 3 0 rfl rfl rfl [28, 1, 2, 3, 4, 5, 6, 7] rfl rfl rfl rfl rfl (Nat.le_of_ble_eq_true rfl) ⟨Nat.le_of_ble_eq_true rfl, Nat.le_of_ble_eq_true rfl⟩ ⟨Nat.zero_le _, Nat.zero_le _⟩ dX7_crowded_69 rfl ?_
    refine g_iconst C 73 (-1 : Int32) dX7_crowded_72 rfl rfl ?_
    refine g_ixor C 74 dX7_crowded_73 rfl ?_
    refine g_iand C 75 dX7_crowded_74 rfl ?_
    exact g_iret (st := []) C E dX7_crowded_75 (by obtain rfl := Option.some.inj h; exact ⟨rfl, rfl⟩)
  have h := ifF c2 h
  have t0 := ne_toInt c0 (show ((0 : Int32) : Int32).toInt = 0 by decide +kernel)
  have t1 := ne_toInt c1 (show ((1 : Int32) : Int32).toInt = 1 by decide +kernel)
  have t2 := ne_toInt c2 (show ((2 : Int32) : Int32).toInt = 2 by decide +kernel)
  by_cases cr : (v1).toInt < 0 ∨ 2 < (v1).toInt
  · refine g_tabOut C 76 dX7_crowded_1 cr (by decide) ?_
    refine g_aload_n C 77 0 dX7_crowded_76 rfl rfl ?_
    refine g_bipush C 79 (-2 : Int32) dX7_crowded_77 rfl rfl ?_
    refine bnd h (fun x6 e6 h => ?_)
    refine g_callVs (w' := (cells7 L o q x6.2)) C 82 [] [.int x6.1] (ct_X7_refuse L o q Z (-2 : Int32) x6 e6) kX7_refuse kvX7_refuse wl_X7_74 7 0 rfl rfl rfl rfl rfl rfl rfl (Nat.le_of_ble_eq_true rfl) ⟨Nat.le_of_ble_eq_true rfl, Nat.le_of_ble_eq_true rfl⟩ ⟨Nat.zero_le _, Nat.zero_le _⟩ dX7_crowded_79 rfl ?_
    exact g_iret (st := []) C E dX7_crowded_82 (by obtain rfl := Option.some.inj h; exact ⟨rfl, rfl⟩)
  · exfalso; omega
set_option maxHeartbeats 4000000 in
set_option maxRecDepth 100000 in
theorem ct_X7_rank (L : LL) (o : Nat → Nat) (q : Nat → Nat → Nat) (Z : Nat → OS) (v1 : Int32) (v2 : Int32) (x : (Int32 × (Nat → OS))) (h : f_X7_rank Z v1 v2 = some x) : Ct L yX7_rank cX7_rank 3 (some .int) (rmk 6 0 0 143) 0 0 [.ref (o 0), .int v1, .int v2] (cells7 L o q Z) (Pv (some (.int x.1)) (cells7 L o q x.2)) := by
  refine g_enter (lv := [(0, .ref (o 0)), (1, .int v1), (2, .int v2)]) kX7_rank rfl rfl (Nat.le_of_ble_eq_true rfl) (fun Γ C E hNL => ?_)
  unfold f_X7_rank at h
  refine g_aload_n C 1 0 dX7_rank_0 rfl rfl ?_
  refine g_get (v := .ref (o 1)) C 4 7 0 0 hin_7 rfl rfl (by decide) wf_X7_10 rfl dX7_rank_1 rfl ?_
  refine g_iload_n C 5 1 dX7_rank_4 rfl rfl ?_
  refine bnd h (fun x1 e1 h => ?_)
  refine g_callVr C 8 [] [.int x1] (ct_X6_hasWay L (o 1) (q 1) (Z 1) v1 x1 e1) kX6_hasWay kvX6_hasWay wl_X7_164 6 0 rfl rfl rfl [1, 2, 3, 4, 5, 6, 7] rfl rfl rfl rfl rfl (Nat.le_of_ble_eq_true rfl) ⟨Nat.le_of_ble_eq_true rfl, Nat.le_of_ble_eq_true rfl⟩ ⟨Nat.zero_le _, Nat.zero_le _⟩ dX7_rank_5 rfl ?_
  refine g_if_ne C 17 11 dX7_rank_8 (by decide) rfl (fun c => ?_) (fun c => ?_)
  · have h := ifF c h
    refine g_iload_n C 18 2 dX7_rank_17 rfl rfl ?_
    refine g_if_ge C 28 21 dX7_rank_18 (by decide) rfl (fun c => ?_) (fun c => ?_)
    · have h := ifT c h
      refine g_aload_n C 29 0 dX7_rank_28 rfl rfl ?_
      refine g_get (v := .ref (o 7)) C 32 7 0 8 hin_7 rfl rfl (by decide) wf_X7_62 rfl dX7_rank_29 rfl ?_
      refine g_iload_n C 33 1 dX7_rank_32 rfl rfl ?_
      refine g_iload_n C 34 2 dX7_rank_33 rfl rfl ?_
      refine bnd h (fun x2 e2 h => ?_)
      refine g_callVr C 37 [] [.int x2] (ct_X1_ranked L (o 7) (q 7) (o 1) (q 1) (Z 7) (Z 1) v1 v2 x2 e2) kX1_ranked kvX1_ranked wl_X7_289 1 0 rfl rfl rfl [30, 31, 1, 2, 3, 4, 5, 6, 7] rfl rfl rfl rfl rfl (Nat.le_of_ble_eq_true rfl) ⟨Nat.le_of_ble_eq_true rfl, Nat.le_of_ble_eq_true rfl⟩ ⟨Nat.zero_le _, Nat.zero_le _⟩ dX7_rank_34 rfl ?_
      exact g_iret (st := []) C E dX7_rank_37 (by obtain rfl := Option.some.inj h; exact ⟨rfl, rfl⟩)
    · have h := ifF c h
      refine g_aload_n C 22 0 dX7_rank_21 rfl rfl ?_
      refine g_bipush C 24 (-4 : Int32) dX7_rank_22 rfl rfl ?_
      refine bnd h (fun x3 e3 h => ?_)
      refine g_callVs (w' := (cells7 L o q x3.2)) C 27 [] [.int x3.1] (ct_X7_refuse L o q Z (-4 : Int32) x3 e3) kX7_refuse kvX7_refuse wl_X7_74 7 0 rfl rfl rfl rfl rfl rfl rfl (Nat.le_of_ble_eq_true rfl) ⟨Nat.le_of_ble_eq_true rfl, Nat.le_of_ble_eq_true rfl⟩ ⟨Nat.zero_le _, Nat.zero_le _⟩ dX7_rank_24 rfl ?_
      exact g_iret (st := []) C E dX7_rank_27 (by obtain rfl := Option.some.inj h; exact ⟨rfl, rfl⟩)
  · have h := ifT c h
    refine g_aload_n C 12 0 dX7_rank_11 rfl rfl ?_
    refine g_iconst C 13 (-1 : Int32) dX7_rank_12 rfl rfl ?_
    refine bnd h (fun x4 e4 h => ?_)
    refine g_callVs (w' := (cells7 L o q x4.2)) C 16 [] [.int x4.1] (ct_X7_refuse L o q Z (-1 : Int32) x4 e4) kX7_refuse kvX7_refuse wl_X7_74 7 0 rfl rfl rfl rfl rfl rfl rfl (Nat.le_of_ble_eq_true rfl) ⟨Nat.le_of_ble_eq_true rfl, Nat.le_of_ble_eq_true rfl⟩ ⟨Nat.zero_le _, Nat.zero_le _⟩ dX7_rank_13 rfl ?_
    exact g_iret (st := []) C E dX7_rank_16 (by obtain rfl := Option.some.inj h; exact ⟨rfl, rfl⟩)
set_option maxHeartbeats 4000000 in
set_option maxRecDepth 100000 in
theorem ct_X7_skillWanted (L : LL) (o : Nat → Nat) (q : Nat → Nat → Nat) (Z : Nat → OS) (v1 : Int32) (v2 : Int32) (v3 : Int32) (x : (Int32 × (Nat → OS))) (h : f_X7_skillWanted Z v1 v2 v3 = some x) : Ct L yX7_skillWanted cX7_skillWanted 4 (some .int) (rmk 4 0 0 96) 0 0 [.ref (o 0), .int v1, .int v2, .int v3] (cells7 L o q Z) (Pv (some (.int x.1)) (cells7 L o q x.2)) := by
  refine g_enter (lv := [(0, .ref (o 0)), (1, .int v1), (2, .int v2), (3, .int v3)]) kX7_skillWanted rfl rfl (Nat.le_of_ble_eq_true rfl) (fun Γ C E hNL => ?_)
  unfold f_X7_skillWanted at h
  refine g_aload_n C 1 0 dX7_skillWanted_0 rfl rfl ?_
  refine g_get (v := .ref (o 1)) C 4 7 0 0 hin_7 rfl rfl (by decide) wf_X7_10 rfl dX7_skillWanted_1 rfl ?_
  refine g_iload_n C 5 1 dX7_skillWanted_4 rfl rfl ?_
  refine bnd h (fun x1 e1 h => ?_)
  refine g_callVr C 8 [] [.int x1] (ct_X6_hasLearner L (o 1) (q 1) (Z 1) v1 x1 e1) kX6_hasLearner kvX6_hasLearner wl_X7_120 6 0 rfl rfl rfl [1, 2, 3, 4, 5, 6, 7] rfl rfl rfl rfl rfl (Nat.le_of_ble_eq_true rfl) ⟨Nat.le_of_ble_eq_true rfl, Nat.le_of_ble_eq_true rfl⟩ ⟨Nat.zero_le _, Nat.zero_le _⟩ dX7_skillWanted_5 rfl ?_
  refine g_if_eq C 29 11 dX7_skillWanted_8 (by decide) rfl (fun c => ?_) (fun c => ?_)
  · have h := ifT c h
    refine g_aload_n C 30 0 dX7_skillWanted_29 rfl rfl ?_
    refine g_iconst C 31 (-1 : Int32) dX7_skillWanted_30 rfl rfl ?_
    refine bnd h (fun x2 e2 h => ?_)
    refine g_callVs (w' := (cells7 L o q x2.2)) C 34 [] [.int x2.1] (ct_X7_refuse L o q Z (-1 : Int32) x2 e2) kX7_refuse kvX7_refuse wl_X7_74 7 0 rfl rfl rfl rfl rfl rfl rfl (Nat.le_of_ble_eq_true rfl) ⟨Nat.le_of_ble_eq_true rfl, Nat.le_of_ble_eq_true rfl⟩ ⟨Nat.zero_le _, Nat.zero_le _⟩ dX7_skillWanted_31 rfl ?_
    exact g_iret (st := []) C E dX7_skillWanted_34 (by obtain rfl := Option.some.inj h; exact ⟨rfl, rfl⟩)
  · have h := ifF c h
    refine g_aload_n C 12 0 dX7_skillWanted_11 rfl rfl ?_
    refine g_get (v := .ref (o 1)) C 15 7 0 0 hin_7 rfl rfl (by decide) wf_X7_10 rfl dX7_skillWanted_12 rfl ?_
    refine g_iload_n C 16 2 dX7_skillWanted_15 rfl rfl ?_
    refine bnd h (fun x3 e3 h => ?_)
    refine g_callVr C 19 [] [.int x3] (ct_X6_hasWay L (o 1) (q 1) (Z 1) v2 x3 e3) kX6_hasWay kvX6_hasWay wl_X7_164 6 0 rfl rfl rfl [1, 2, 3, 4, 5, 6, 7] rfl rfl rfl rfl rfl (Nat.le_of_ble_eq_true rfl) ⟨Nat.le_of_ble_eq_true rfl, Nat.le_of_ble_eq_true rfl⟩ ⟨Nat.zero_le _, Nat.zero_le _⟩ dX7_skillWanted_16 rfl ?_
    refine g_if_eq C 29 22 dX7_skillWanted_19 (by decide) rfl (fun c => ?_) (fun c => ?_)
    · have h := ifT c h
      refine g_aload_n C 30 0 dX7_skillWanted_29 rfl rfl ?_
      refine g_iconst C 31 (-1 : Int32) dX7_skillWanted_30 rfl rfl ?_
      refine bnd h (fun x4 e4 h => ?_)
      refine g_callVs (w' := (cells7 L o q x4.2)) C 34 [] [.int x4.1] (ct_X7_refuse L o q Z (-1 : Int32) x4 e4) kX7_refuse kvX7_refuse wl_X7_74 7 0 rfl rfl rfl rfl rfl rfl rfl (Nat.le_of_ble_eq_true rfl) ⟨Nat.le_of_ble_eq_true rfl, Nat.le_of_ble_eq_true rfl⟩ ⟨Nat.zero_le _, Nat.zero_le _⟩ dX7_skillWanted_31 rfl ?_
      exact g_iret (st := []) C E dX7_skillWanted_34 (by obtain rfl := Option.some.inj h; exact ⟨rfl, rfl⟩)
    · have h := ifF c h
      refine g_iload_n C 23 3 dX7_skillWanted_22 rfl rfl ?_
      refine bnd h (fun x5 e5 h => ?_)
      refine g_callSr C 26 [] [.int x5] (ct_X7_isHour L v3 x5 e5) kX7_isHour kvX7_isHour wl_X7_167 [] rfl rfl rfl rfl rfl (Nat.le_of_ble_eq_true rfl) ⟨Nat.le_of_ble_eq_true rfl, Nat.le_of_ble_eq_true rfl⟩ ⟨Nat.zero_le _, Nat.zero_le _⟩ dX7_skillWanted_23 rfl ?_
      refine g_if_ne C 35 29 dX7_skillWanted_26 (by decide) rfl (fun c => ?_) (fun c => ?_)
      · have h := ifF c h
        refine g_aload_n C 36 0 dX7_skillWanted_35 rfl rfl ?_
        refine g_get (v := .ref (o 9)) C 39 7 0 7 hin_7 rfl rfl (by decide) wf_X7_55 rfl dX7_skillWanted_36 rfl ?_
        refine g_iload_n C 40 1 dX7_skillWanted_39 rfl rfl ?_
        refine g_iload_n C 41 2 dX7_skillWanted_40 rfl rfl ?_
        refine g_iload_n C 42 3 dX7_skillWanted_41 rfl rfl ?_
        refine bnd h (fun x6 e6 h => ?_)
        refine g_callVr C 45 [] [.int x6] (ct_X2_leastSkill L (o 9) (o 1) (q 1) (Z 1) v1 v2 v3 x6 e6) kX2_leastSkill kvX2_leastSkill wl_X7_292 2 0 rfl rfl rfl [29, 1, 2, 3, 4, 5, 6, 7] rfl rfl rfl rfl rfl (Nat.le_of_ble_eq_true rfl) ⟨Nat.le_of_ble_eq_true rfl, Nat.le_of_ble_eq_true rfl⟩ ⟨Nat.zero_le _, Nat.zero_le _⟩ dX7_skillWanted_42 rfl ?_
        exact g_iret (st := []) C E dX7_skillWanted_45 (by obtain rfl := Option.some.inj h; exact ⟨rfl, rfl⟩)
      · have h := ifT c h
        refine g_aload_n C 30 0 dX7_skillWanted_29 rfl rfl ?_
        refine g_iconst C 31 (-1 : Int32) dX7_skillWanted_30 rfl rfl ?_
        refine bnd h (fun x7 e7 h => ?_)
        refine g_callVs (w' := (cells7 L o q x7.2)) C 34 [] [.int x7.1] (ct_X7_refuse L o q Z (-1 : Int32) x7 e7) kX7_refuse kvX7_refuse wl_X7_74 7 0 rfl rfl rfl rfl rfl rfl rfl (Nat.le_of_ble_eq_true rfl) ⟨Nat.le_of_ble_eq_true rfl, Nat.le_of_ble_eq_true rfl⟩ ⟨Nat.zero_le _, Nat.zero_le _⟩ dX7_skillWanted_31 rfl ?_
        exact g_iret (st := []) C E dX7_skillWanted_34 (by obtain rfl := Option.some.inj h; exact ⟨rfl, rfl⟩)
