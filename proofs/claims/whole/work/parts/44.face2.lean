set_option maxHeartbeats 4000000 in
set_option maxRecDepth 100000 in
theorem ct_X7_limitWanted (L : LL) (o : Nat → Nat) (q : Nat → Nat → Nat) (Z : Nat → OS) (x : Int32) (h : f_X7_limitWanted Z = some x) : Ct L yX7_limitWanted cX7_limitWanted 1 (some .int) (rmk 4 0 0 97) 0 0 [.ref (o 0)] (cells7 L o q Z) (Pv (some (.int x)) (cells7 L o q Z)) := by
  refine g_enter (lv := [(0, .ref (o 0))]) kX7_limitWanted rfl rfl (Nat.le_of_ble_eq_true rfl) (fun Γ C E hNL => ?_)
  unfold f_X7_limitWanted at h
  refine g_aload_n C 1 0 dX7_limitWanted_0 rfl rfl ?_
  refine g_get (v := .ref (o 7)) C 4 7 0 8 hin_7 rfl rfl (by decide) wf_X7_62 rfl dX7_limitWanted_1 rfl ?_
  refine bnd h (fun x1 e1 h => ?_)
  refine g_callVr C 7 [] [.int x1] (ct_X1_leastLimit L (o 7) (q 7) (o 1) (q 1) (Z 7) (Z 1) x1 e1) kX1_leastLimit kvX1_leastLimit wl_X7_295 1 0 rfl rfl rfl [30, 31, 1, 2, 3, 4, 5, 6, 7] rfl rfl rfl rfl rfl (Nat.le_of_ble_eq_true rfl) ⟨Nat.le_of_ble_eq_true rfl, Nat.le_of_ble_eq_true rfl⟩ ⟨Nat.zero_le _, Nat.zero_le _⟩ dX7_limitWanted_4 rfl ?_
  exact g_iret (st := []) C E dX7_limitWanted_7 (by obtain rfl := Option.some.inj h; exact ⟨rfl, rfl⟩)
set_option maxHeartbeats 4000000 in
set_option maxRecDepth 100000 in
theorem ct_X7_rush (L : LL) (o : Nat → Nat) (q : Nat → Nat → Nat) (Z : Nat → OS) (v1 : Int32) (v2 : Int32) (x : (Int32 × (Nat → OS))) (h : f_X7_rush Z v1 v2 = some x) : Ct L yX7_rush cX7_rush 3 (some .int) (rmk 6 0 0 144) 0 0 [.ref (o 0), .int v1, .int v2] (cells7 L o q Z) (Pv (some (.int x.1)) (cells7 L o q x.2)) := by
  refine g_enter (lv := [(0, .ref (o 0)), (1, .int v1), (2, .int v2)]) kX7_rush rfl rfl (Nat.le_of_ble_eq_true rfl) (fun Γ C E hNL => ?_)
  unfold f_X7_rush at h
  refine g_aload_n C 1 0 dX7_rush_0 rfl rfl ?_
  refine g_get (v := .ref (o 1)) C 4 7 0 0 hin_7 rfl rfl (by decide) wf_X7_10 rfl dX7_rush_1 rfl ?_
  refine g_iload_n C 5 1 dX7_rush_4 rfl rfl ?_
  refine bnd h (fun x1 e1 h => ?_)
  refine g_callVr C 8 [] [.int x1] (ct_X6_hasWay L (o 1) (q 1) (Z 1) v1 x1 e1) kX6_hasWay kvX6_hasWay wl_X7_164 6 0 rfl rfl rfl [1, 2, 3, 4, 5, 6, 7] rfl rfl rfl rfl rfl (Nat.le_of_ble_eq_true rfl) ⟨Nat.le_of_ble_eq_true rfl, Nat.le_of_ble_eq_true rfl⟩ ⟨Nat.zero_le _, Nat.zero_le _⟩ dX7_rush_5 rfl ?_
  refine g_if_ne C 17 11 dX7_rush_8 (by decide) rfl (fun c => ?_) (fun c => ?_)
  · have h := ifF c h
    refine g_iload_n C 18 2 dX7_rush_17 rfl rfl ?_
    by_cases c0 : v2 = (0 : Int32)
    · have h := ifT c0 h
      refine g_lookup C 44 (26) dX7_rush_18 (by decide +kernel) (by rw [c0]; rfl) (by decide) ?_
      refine g_aload_n C 45 0 dX7_rush_44 rfl rfl ?_
      refine g_get (v := .ref (o 7)) C 48 7 0 8 hin_7 rfl rfl (by decide) wf_X7_62 rfl dX7_rush_45 rfl ?_
      refine g_iload_n C 49 1 dX7_rush_48 rfl rfl ?_
      refine bnd h (fun x2 e2 h => ?_)
      refine g_callVr C 52 [] [.int x2] (ct_X1_hourOfMost L (o 7) (q 7) (o 1) (q 1) (Z 7) (Z 1) v1 x2 e2) kX1_hourOfMost kvX1_hourOfMost wl_X7_298 1 0 rfl rfl rfl [30, 31, 1, 2, 3, 4, 5, 6, 7] rfl rfl rfl rfl rfl (Nat.le_of_ble_eq_true rfl) ⟨Nat.le_of_ble_eq_true rfl, Nat.le_of_ble_eq_true rfl⟩ ⟨Nat.zero_le _, Nat.zero_le _⟩ dX7_rush_49 rfl ?_
      exact g_iret (st := []) C E dX7_rush_52 (by obtain rfl := Option.some.inj h; exact ⟨rfl, rfl⟩)
    have h := ifF c0 h
    by_cases c1 : v2 = (1 : Int32)
    · have h := ifT c1 h
      refine g_lookup C 53 (35) dX7_rush_18 (by decide +kernel) (by rw [c1]; rfl) (by decide) ?_
      refine g_aload_n C 54 0 dX7_rush_53 rfl rfl ?_
      refine g_get (v := .ref (o 7)) C 57 7 0 8 hin_7 rfl rfl (by decide) wf_X7_62 rfl dX7_rush_54 rfl ?_
      refine g_iload_n C 58 1 dX7_rush_57 rfl rfl ?_
      refine g_aload_n C 59 0 dX7_rush_58 rfl rfl ?_
      refine g_get (v := .ref (o 7)) C 62 7 0 8 hin_7 rfl rfl (by decide) wf_X7_62 rfl dX7_rush_59 rfl ?_
      refine g_iload_n C 63 1 dX7_rush_62 rfl rfl ?_
      refine bnd h (fun x3 e3 h => ?_)
      refine g_callVr C 66 [.int v1, .ref (o 7)] [.int x3, .int v1, .ref (o 7)] (ct_X1_hourOfMost L (o 7) (q 7) (o 1) (q 1) (Z 7) (Z 1) v1 x3 e3) kX1_hourOfMost kvX1_hourOfMost wl_X7_298 1 0 rfl rfl rfl [30, 31, 1, 2, 3, 4, 5, 6, 7] rfl rfl rfl rfl rfl (Nat.le_of_ble_eq_true rfl) ⟨Nat.le_of_ble_eq_true rfl, Nat.le_of_ble_eq_true rfl⟩ ⟨Nat.zero_le _, Nat.zero_le _⟩ dX7_rush_63 rfl ?_
      refine bnd h (fun x4 e4 h => ?_)
      refine g_callVr C 69 [] [.int x4] (ct_X1_passersAt L (o 7) (q 7) (o 1) (q 1) (Z 7) (Z 1) v1 x3 x4 e4) kX1_passersAt kvX1_passersAt wl_X7_301 1 0 rfl rfl rfl [30, 31, 1, 2, 3, 4, 5, 6, 7] rfl rfl rfl rfl rfl (Nat.le_of_ble_eq_true rfl) ⟨Nat.le_of_ble_eq_true rfl, Nat.le_of_ble_eq_true rfl⟩ ⟨Nat.zero_le _, Nat.zero_le _⟩ dX7_rush_66 rfl ?_
      exact g_iret (st := []) C E dX7_rush_69 (by obtain rfl := Option.some.inj h; exact ⟨rfl, rfl⟩)
    have h := ifF c1 h
    refine g_lookup C 70 (52) dX7_rush_18 (by decide +kernel) (by refine (lv_osw c0 (by decide +kernel)).trans ?_; refine (lv_osw c1 (by decide +kernel)).trans ?_; rfl) (by decide) ?_
    refine g_aload_n C 71 0 dX7_rush_70 rfl rfl ?_
    refine g_bipush C 73 (-2 : Int32) dX7_rush_71 rfl rfl ?_
    refine bnd h (fun x5 e5 h => ?_)
    refine g_callVs (w' := (cells7 L o q x5.2)) C 76 [] [.int x5.1] (ct_X7_refuse L o q Z (-2 : Int32) x5 e5) kX7_refuse kvX7_refuse wl_X7_74 7 0 rfl rfl rfl rfl rfl rfl rfl (Nat.le_of_ble_eq_true rfl) ⟨Nat.le_of_ble_eq_true rfl, Nat.le_of_ble_eq_true rfl⟩ ⟨Nat.zero_le _, Nat.zero_le _⟩ dX7_rush_73 rfl ?_
    exact g_iret (st := []) C E dX7_rush_76 (by obtain rfl := Option.some.inj h; exact ⟨rfl, rfl⟩)
  · have h := ifT c h
    refine g_aload_n C 12 0 dX7_rush_11 rfl rfl ?_
    refine g_iconst C 13 (-1 : Int32) dX7_rush_12 rfl rfl ?_
    refine bnd h (fun x6 e6 h => ?_)
    refine g_callVs (w' := (cells7 L o q x6.2)) C 16 [] [.int x6.1] (ct_X7_refuse L o q Z (-1 : Int32) x6 e6) kX7_refuse kvX7_refuse wl_X7_74 7 0 rfl rfl rfl rfl rfl rfl rfl (Nat.le_of_ble_eq_true rfl) ⟨Nat.le_of_ble_eq_true rfl, Nat.le_of_ble_eq_true rfl⟩ ⟨Nat.zero_le _, Nat.zero_le _⟩ dX7_rush_13 rfl ?_
    exact g_iret (st := []) C E dX7_rush_16 (by obtain rfl := Option.some.inj h; exact ⟨rfl, rfl⟩)
set_option maxHeartbeats 4000000 in
set_option maxRecDepth 100000 in
theorem ct_X7_newcomer (L : LL) (o : Nat → Nat) (q : Nat → Nat → Nat) (Z : Nat → OS) (v1 : Int32) (x : (Int32 × (Nat → OS))) (h : f_X7_newcomer Z v1 = some x) : Ct L yX7_newcomer cX7_newcomer 2 (some .int) (rmk 4 0 0 97) 0 0 [.ref (o 0), .int v1] (cells7 L o q Z) (Pv (some (.int x.1)) (cells7 L o q x.2)) := by
  refine g_enter (lv := [(0, .ref (o 0)), (1, .int v1)]) kX7_newcomer rfl rfl (Nat.le_of_ble_eq_true rfl) (fun Γ C E hNL => ?_)
  unfold f_X7_newcomer at h
  refine g_iload_n C 1 1 dX7_newcomer_0 rfl rfl ?_
  refine g_if_ge C 11 4 dX7_newcomer_1 (by decide) rfl (fun c => ?_) (fun c => ?_)
  · have h := ifT c h
    refine g_iload_n C 12 1 dX7_newcomer_11 rfl rfl ?_
    refine g_bipush C 14 (9 : Int32) dX7_newcomer_12 rfl rfl ?_
    refine g_icmp_le C 24 17 dX7_newcomer_14 (by decide) rfl (fun c => ?_) (fun c => ?_)
    · have h := ifT c h
      refine g_aload_n C 25 0 dX7_newcomer_24 rfl rfl ?_
      refine g_get (v := .ref (o 1)) C 28 7 0 0 hin_7 rfl rfl (by decide) wf_X7_10 rfl dX7_newcomer_25 rfl ?_
      refine g_iload_n C 29 1 dX7_newcomer_28 rfl rfl ?_
      refine g_iconst C 30 (0 : Int32) dX7_newcomer_29 rfl rfl ?_
      refine g_aload_n C 31 0 dX7_newcomer_30 rfl rfl ?_
      refine g_get (v := .ref (o 1)) C 34 7 0 0 hin_7 rfl rfl (by decide) wf_X7_10 rfl dX7_newcomer_31 rfl ?_
      refine g_get (v := .int ((Z 1).1 3)) C 37 6 1 3 hin_6 rfl rfl (by decide) wf_X7_110 rfl dX7_newcomer_34 rfl ?_
      refine bnd h (fun x1 e1 h => ?_)
      refine g_callVr C 40 [] [.int x1] (ct_X6_waysPassed L (o 1) (q 1) (Z 1) v1 (0 : Int32) ((Z 1).1 3) x1 e1) kX6_waysPassed kvX6_waysPassed wl_X7_201 6 0 rfl rfl rfl [1, 2, 3, 4, 5, 6, 7] rfl rfl rfl rfl rfl (Nat.le_of_ble_eq_true rfl) ⟨Nat.le_of_ble_eq_true rfl, Nat.le_of_ble_eq_true rfl⟩ ⟨Nat.zero_le _, Nat.zero_le _⟩ dX7_newcomer_37 rfl ?_
      exact g_iret (st := []) C E dX7_newcomer_40 (by obtain rfl := Option.some.inj h; exact ⟨rfl, rfl⟩)
    · have h := ifF c h
      refine g_aload_n C 18 0 dX7_newcomer_17 rfl rfl ?_
      refine g_bipush C 20 (-6 : Int32) dX7_newcomer_18 rfl rfl ?_
      refine bnd h (fun x2 e2 h => ?_)
      refine g_callVs (w' := (cells7 L o q x2.2)) C 23 [] [.int x2.1] (ct_X7_refuse L o q Z (-6 : Int32) x2 e2) kX7_refuse kvX7_refuse wl_X7_74 7 0 rfl rfl rfl rfl rfl rfl rfl (Nat.le_of_ble_eq_true rfl) ⟨Nat.le_of_ble_eq_true rfl, Nat.le_of_ble_eq_true rfl⟩ ⟨Nat.zero_le _, Nat.zero_le _⟩ dX7_newcomer_20 rfl ?_
      exact g_iret (st := []) C E dX7_newcomer_23 (by obtain rfl := Option.some.inj h; exact ⟨rfl, rfl⟩)
  · have h := ifF c h
    refine g_aload_n C 5 0 dX7_newcomer_4 rfl rfl ?_
    refine g_bipush C 7 (-4 : Int32) dX7_newcomer_5 rfl rfl ?_
    refine bnd h (fun x3 e3 h => ?_)
    refine g_callVs (w' := (cells7 L o q x3.2)) C 10 [] [.int x3.1] (ct_X7_refuse L o q Z (-4 : Int32) x3 e3) kX7_refuse kvX7_refuse wl_X7_74 7 0 rfl rfl rfl rfl rfl rfl rfl (Nat.le_of_ble_eq_true rfl) ⟨Nat.le_of_ble_eq_true rfl, Nat.le_of_ble_eq_true rfl⟩ ⟨Nat.zero_le _, Nat.zero_le _⟩ dX7_newcomer_7 rfl ?_
    exact g_iret (st := []) C E dX7_newcomer_10 (by obtain rfl := Option.some.inj h; exact ⟨rfl, rfl⟩)
set_option maxHeartbeats 4000000 in
set_option maxRecDepth 100000 in
theorem ct_X7_gain (L : LL) (o : Nat → Nat) (q : Nat → Nat → Nat) (Z : Nat → OS) (v1 : Int32) (v2 : Int32) (x : (Int32 × (Nat → OS))) (h : f_X7_gain Z v1 v2 = some x) : Ct L yX7_gain cX7_gain 4 (some .int) (rmk 6 0 0 147) 0 0 [.ref (o 0), .int v1, .int v2] (cells7 L o q Z) (Pv (some (.int x.1)) (cells7 L o q x.2)) := by
  refine g_enter (lv := [(0, .ref (o 0)), (1, .int v1), (2, .int v2)]) kX7_gain rfl rfl (Nat.le_of_ble_eq_true rfl) (fun Γ C E hNL => ?_)
  have J_43 : ∀ (v1 : Int32) (v2 : Int32) (v3 : Int32) (Z : (Nat → OS)), j_X7_gain_43   v1 v2 v3 Z = some x → G L Γ 0 0 (cells7 L o q Z) 43 [(0, .ref (o 0)), (1, .int v1), (2, .int v2), (3, .int v3)] [] := by
    intro v1 v2 v3 Z h
    unfold j_X7_gain_43 at h
    refine g_iload_n C 44 3 dX7_gain_43 rfl rfl ?_
    refine g_if_eq C 58 47 dX7_gain_44 (by decide) rfl (fun c => ?_) (fun c => ?_)
    · have h := ifT c h
      refine g_aload_n C 59 0 dX7_gain_58 rfl rfl ?_
      refine g_get (v := .ref (o 9)) C 62 7 0 7 hin_7 rfl rfl (by decide) wf_X7_55 rfl dX7_gain_59 rfl ?_
      refine g_iload_n C 63 1 dX7_gain_62 rfl rfl ?_
      refine g_iload_n C 64 2 dX7_gain_63 rfl rfl ?_
      refine bnd h (fun x5 e5 h => ?_)
      refine g_callVr C 67 [] [.int x5] (ct_X2_gained L (o 9) (o 1) (q 1) (Z 1) v1 v2 x5 e5) kX2_gained kvX2_gained wl_X7_307 2 0 rfl rfl rfl [29, 1, 2, 3, 4, 5, 6, 7] rfl rfl rfl rfl rfl (Nat.le_of_ble_eq_true rfl) ⟨Nat.le_of_ble_eq_true rfl, Nat.le_of_ble_eq_true rfl⟩ ⟨Nat.zero_le _, Nat.zero_le _⟩ dX7_gain_64 rfl ?_
      exact g_iret (st := []) C E dX7_gain_67 (by obtain rfl := Option.some.inj h; exact ⟨rfl, rfl⟩)
    · have h := ifF c h
      refine g_aload_n C 48 0 dX7_gain_47 rfl rfl ?_
      refine g_get (v := .ref (o 9)) C 51 7 0 7 hin_7 rfl rfl (by decide) wf_X7_55 rfl dX7_gain_48 rfl ?_
      refine g_iload_n C 52 1 dX7_gain_51 rfl rfl ?_
      refine bnd h (fun x6 e6 h => ?_)
      refine g_callVr C 55 [] [.int x6] (ct_X2_bestLesson L (o 9) (o 1) (q 1) (Z 1) v1 x6 e6) kX2_bestLesson kvX2_bestLesson wl_X7_304 2 0 rfl rfl rfl [29, 1, 2, 3, 4, 5, 6, 7] rfl rfl rfl rfl rfl (Nat.le_of_ble_eq_true rfl) ⟨Nat.le_of_ble_eq_true rfl, Nat.le_of_ble_eq_true rfl⟩ ⟨Nat.zero_le _, Nat.zero_le _⟩ dX7_gain_52 rfl ?_
      refine g_goto C 67 dX7_gain_55 (by decide) ?_
      exact g_iret (st := []) C E dX7_gain_67 (by obtain rfl := Option.some.inj h; exact ⟨rfl, rfl⟩)
  have J_10 : ∀ (v1 : Int32) (v2 : Int32) (s0 : Int32) (Z : (Nat → OS)), j_X7_gain_10   v1 v2 s0 Z = some x → G L Γ 0 0 (cells7 L o q Z) 10 [(0, .ref (o 0)), (1, .int v1), (2, .int v2)] [.int s0] := by
    intro v1 v2 s0 Z h
    unfold j_X7_gain_10 at h
    refine g_istore_n C 11 3 [(3, .int s0), (0, .ref (o 0)), (1, .int v1), (2, .int v2)] dX7_gain_10 rfl rfl 4 hNL (by decide) rfl ?_
    refine g_aload_n C 12 1 dX7_gain_11 rfl rfl ?_
    refine g_get (v := .ref (o 1)) C 15 7 0 0 hin_7 rfl rfl (by decide) wf_X7_10 rfl dX7_gain_12 rfl ?_
    refine g_iload_n C 16 2 dX7_gain_15 rfl rfl ?_
    refine bnd h (fun x1 e1 h => ?_)
    refine g_callVr C 19 [] [.int x1] (ct_X6_hasLearner L (o 1) (q 1) (Z 1) v1 x1 e1) kX6_hasLearner kvX6_hasLearner wl_X7_120 6 0 rfl rfl rfl [1, 2, 3, 4, 5, 6, 7] rfl rfl rfl rfl rfl (Nat.le_of_ble_eq_true rfl) ⟨Nat.le_of_ble_eq_true rfl, Nat.le_of_ble_eq_true rfl⟩ ⟨Nat.zero_le _, Nat.zero_le _⟩ dX7_gain_16 rfl ?_
    refine g_if_eq C 37 22 dX7_gain_19 (by decide) rfl (fun c => ?_) (fun c => ?_)
    · have h := ifT c h
      refine g_aload_n C 38 1 dX7_gain_37 rfl rfl ?_
      refine g_iconst C 39 (-1 : Int32) dX7_gain_38 rfl rfl ?_
      refine bnd h (fun x2 e2 h => ?_)
      refine g_callVs (w' := (cells7 L o q x2.2)) C 42 [] [.int x2.1] (ct_X7_refuse L o q Z (-1 : Int32) x2 e2) kX7_refuse kvX7_refuse wl_X7_74 7 0 rfl rfl rfl rfl rfl rfl rfl (Nat.le_of_ble_eq_true rfl) ⟨Nat.le_of_ble_eq_true rfl, Nat.le_of_ble_eq_true rfl⟩ ⟨Nat.zero_le _, Nat.zero_le _⟩ dX7_gain_39 rfl ?_
      exact g_iret (st := []) C E dX7_gain_42 (by obtain rfl := Option.some.inj h; exact ⟨rfl, rfl⟩)
    · have h := ifF c h
      refine g_iload_n C 23 0 dX7_gain_22 rfl rfl ?_
      refine g_if_ne C 43 26 dX7_gain_23 (by decide) rfl (fun c => ?_) (fun c => ?_)
      · have h := ifF c h
        refine g_lv (lv' := [(0, .ref (o 0)), (1, .int v1), (2, .int v2), (3, .int s0)]) [1, 2, 3, 0] rfl ?_
        exact J_43 _ _ _ _ h
      · have h := ifT c h
        refine g_aload_n C 27 1 dX7_gain_26 rfl rfl ?_
        refine g_get (v := .ref (o 1)) C 30 7 0 0 hin_7 rfl rfl (by decide) wf_X7_10 rfl dX7_gain_27 rfl ?_
        refine g_iload_n C 31 3 dX7_gain_30 rfl rfl ?_
        refine bnd h (fun x3 e3 h => ?_)
        refine g_callVr C 34 [] [.int x3] (ct_X6_hasStreet L (o 1) (q 1) (Z 1) v2 x3 e3) kX6_hasStreet kvX6_hasStreet wl_X7_93 6 0 rfl rfl rfl [1, 2, 3, 4, 5, 6, 7] rfl rfl rfl rfl rfl (Nat.le_of_ble_eq_true rfl) ⟨Nat.le_of_ble_eq_true rfl, Nat.le_of_ble_eq_true rfl⟩ ⟨Nat.zero_le _, Nat.zero_le _⟩ dX7_gain_31 rfl ?_
        refine g_if_ne C 43 37 dX7_gain_34 (by decide) rfl (fun c => ?_) (fun c => ?_)
        · have h := ifF c h
          refine g_lv (lv' := [(0, .ref (o 0)), (1, .int v1), (2, .int v2), (3, .int s0)]) [1, 2, 3, 0] rfl ?_
          exact J_43 _ _ _ _ h
        · have h := ifT c h
          refine g_aload_n C 38 1 dX7_gain_37 rfl rfl ?_
          refine g_iconst C 39 (-1 : Int32) dX7_gain_38 rfl rfl ?_
          refine bnd h (fun x4 e4 h => ?_)
          refine g_callVs (w' := (cells7 L o q x4.2)) C 42 [] [.int x4.1] (ct_X7_refuse L o q Z (-1 : Int32) x4 e4) kX7_refuse kvX7_refuse wl_X7_74 7 0 rfl rfl rfl rfl rfl rfl rfl (Nat.le_of_ble_eq_true rfl) ⟨Nat.le_of_ble_eq_true rfl, Nat.le_of_ble_eq_true rfl⟩ ⟨Nat.zero_le _, Nat.zero_le _⟩ dX7_gain_39 rfl ?_
          exact g_iret (st := []) C E dX7_gain_42 (by obtain rfl := Option.some.inj h; exact ⟨rfl, rfl⟩)
  unfold f_X7_gain at h
  refine g_iload_n C 1 2 dX7_gain_0 rfl rfl ?_
  refine g_iconst C 2 (-1 : Int32) dX7_gain_1 rfl rfl ?_
  refine g_icmp_ne C 9 5 dX7_gain_2 (by decide) rfl (fun c => ?_) (fun c => ?_)
  · have h := ifF c h
    refine g_iconst C 10 (0 : Int32) dX7_gain_9 rfl rfl ?_
    exact J_10 _ _ _ _ h
  · have h := ifT c h
    refine g_iconst C 6 (1 : Int32) dX7_gain_5 rfl rfl ?_
    refine g_goto C 10 dX7_gain_6 (by decide) ?_
    exact J_10 _ _ _ _ h
set_option maxHeartbeats 4000000 in
set_option maxRecDepth 100000 in
theorem ct_X7_career (L : LL) (o : Nat → Nat) (q : Nat → Nat → Nat) (Z : Nat → OS) (v1 : Int32) (v2 : Int32) (x : (Int32 × (Nat → OS))) (h : f_X7_career Z v1 v2 = some x) : Ct L yX7_career cX7_career 3 (some .int) (rmk 4 0 0 98) 0 0 [.ref (o 0), .int v1, .int v2] (cells7 L o q Z) (Pv (some (.int x.1)) (cells7 L o q x.2)) := by
  refine g_enter (lv := [(0, .ref (o 0)), (1, .int v1), (2, .int v2)]) kX7_career rfl rfl (Nat.le_of_ble_eq_true rfl) (fun Γ C E hNL => ?_)
  unfold f_X7_career at h
  refine g_aload_n C 1 0 dX7_career_0 rfl rfl ?_
  refine g_get (v := .ref (o 1)) C 4 7 0 0 hin_7 rfl rfl (by decide) wf_X7_10 rfl dX7_career_1 rfl ?_
  refine g_iload_n C 5 1 dX7_career_4 rfl rfl ?_
  refine bnd h (fun x1 e1 h => ?_)
  refine g_callVr C 8 [] [.int x1] (ct_X6_hasLearner L (o 1) (q 1) (Z 1) v1 x1 e1) kX6_hasLearner kvX6_hasLearner wl_X7_120 6 0 rfl rfl rfl [1, 2, 3, 4, 5, 6, 7] rfl rfl rfl rfl rfl (Nat.le_of_ble_eq_true rfl) ⟨Nat.le_of_ble_eq_true rfl, Nat.le_of_ble_eq_true rfl⟩ ⟨Nat.zero_le _, Nat.zero_le _⟩ dX7_career_5 rfl ?_
  refine g_if_ne C 17 11 dX7_career_8 (by decide) rfl (fun c => ?_) (fun c => ?_)
  · have h := ifF c h
    refine g_iload_n C 18 2 dX7_career_17 rfl rfl ?_
    refine g_if_ge C 28 21 dX7_career_18 (by decide) rfl (fun c => ?_) (fun c => ?_)
    · have h := ifT c h
      refine g_iload_n C 29 2 dX7_career_28 rfl rfl ?_
      refine g_bipush C 31 (60 : Int32) dX7_career_29 rfl rfl ?_
      refine g_icmp_le C 41 34 dX7_career_31 (by decide) rfl (fun c => ?_) (fun c => ?_)
      · have h := ifT c h
        refine g_aload_n C 42 0 dX7_career_41 rfl rfl ?_
        refine g_get (v := .ref (o 9)) C 45 7 0 7 hin_7 rfl rfl (by decide) wf_X7_55 rfl dX7_career_42 rfl ?_
        refine g_iload_n C 46 1 dX7_career_45 rfl rfl ?_
        refine g_iload_n C 47 2 dX7_career_46 rfl rfl ?_
        refine bnd h (fun x2 e2 h => ?_)
        refine g_callVr C 50 [] [.int x2] (ct_X2_passedInRow L (o 9) (o 1) (q 1) (Z 1) v1 v2 x2 e2) kX2_passedInRow kvX2_passedInRow wl_X7_310 2 0 rfl rfl rfl [29, 1, 2, 3, 4, 5, 6, 7] rfl rfl rfl rfl rfl (Nat.le_of_ble_eq_true rfl) ⟨Nat.le_of_ble_eq_true rfl, Nat.le_of_ble_eq_true rfl⟩ ⟨Nat.zero_le _, Nat.zero_le _⟩ dX7_career_47 rfl ?_
        exact g_iret (st := []) C E dX7_career_50 (by obtain rfl := Option.some.inj h; exact ⟨rfl, rfl⟩)
      · have h := ifF c h
        refine g_aload_n C 35 0 dX7_career_34 rfl rfl ?_
        refine g_bipush C 37 (-6 : Int32) dX7_career_35 rfl rfl ?_
        refine bnd h (fun x3 e3 h => ?_)
        refine g_callVs (w' := (cells7 L o q x3.2)) C 40 [] [.int x3.1] (ct_X7_refuse L o q Z (-6 : Int32) x3 e3) kX7_refuse kvX7_refuse wl_X7_74 7 0 rfl rfl rfl rfl rfl rfl rfl (Nat.le_of_ble_eq_true rfl) ⟨Nat.le_of_ble_eq_true rfl, Nat.le_of_ble_eq_true rfl⟩ ⟨Nat.zero_le _, Nat.zero_le _⟩ dX7_career_37 rfl ?_
        exact g_iret (st := []) C E dX7_career_40 (by obtain rfl := Option.some.inj h; exact ⟨rfl, rfl⟩)
    · have h := ifF c h
      refine g_aload_n C 22 0 dX7_career_21 rfl rfl ?_
      refine g_bipush C 24 (-4 : Int32) dX7_career_22 rfl rfl ?_
      refine bnd h (fun x4 e4 h => ?_)
      refine g_callVs (w' := (cells7 L o q x4.2)) C 27 [] [.int x4.1] (ct_X7_refuse L o q Z (-4 : Int32) x4 e4) kX7_refuse kvX7_refuse wl_X7_74 7 0 rfl rfl rfl rfl rfl rfl rfl (Nat.le_of_ble_eq_true rfl) ⟨Nat.le_of_ble_eq_true rfl, Nat.le_of_ble_eq_true rfl⟩ ⟨Nat.zero_le _, Nat.zero_le _⟩ dX7_career_24 rfl ?_
      exact g_iret (st := []) C E dX7_career_27 (by obtain rfl := Option.some.inj h; exact ⟨rfl, rfl⟩)
  · have h := ifT c h
    refine g_aload_n C 12 0 dX7_career_11 rfl rfl ?_
    refine g_iconst C 13 (-1 : Int32) dX7_career_12 rfl rfl ?_
    refine bnd h (fun x5 e5 h => ?_)
    refine g_callVs (w' := (cells7 L o q x5.2)) C 16 [] [.int x5.1] (ct_X7_refuse L o q Z (-1 : Int32) x5 e5) kX7_refuse kvX7_refuse wl_X7_74 7 0 rfl rfl rfl rfl rfl rfl rfl (Nat.le_of_ble_eq_true rfl) ⟨Nat.le_of_ble_eq_true rfl, Nat.le_of_ble_eq_true rfl⟩ ⟨Nat.zero_le _, Nat.zero_le _⟩ dX7_career_13 rfl ?_
    exact g_iret (st := []) C E dX7_career_16 (by obtain rfl := Option.some.inj h; exact ⟨rfl, rfl⟩)
set_option maxHeartbeats 4000000 in
set_option maxRecDepth 100000 in
theorem ct_X7_toughest (L : LL) (o : Nat → Nat) (q : Nat → Nat → Nat) (Z : Nat → OS) (v1 : Int32) (x : (Int32 × (Nat → OS))) (h : f_X7_toughest Z v1 = some x) : Ct L yX7_toughest cX7_toughest 2 (some .int) (rmk 4 0 0 94) 0 0 [.ref (o 0), .int v1] (cells7 L o q Z) (Pv (some (.int x.1)) (cells7 L o q x.2)) := by
  refine g_enter (lv := [(0, .ref (o 0)), (1, .int v1)]) kX7_toughest rfl rfl (Nat.le_of_ble_eq_true rfl) (fun Γ C E hNL => ?_)
  unfold f_X7_toughest at h
  refine g_aload_n C 1 0 dX7_toughest_0 rfl rfl ?_
  refine g_get (v := .ref (o 1)) C 4 7 0 0 hin_7 rfl rfl (by decide) wf_X7_10 rfl dX7_toughest_1 rfl ?_
  refine g_iload_n C 5 1 dX7_toughest_4 rfl rfl ?_
  refine bnd h (fun x1 e1 h => ?_)
  refine g_callVr C 8 [] [.int x1] (ct_X6_hasWay L (o 1) (q 1) (Z 1) v1 x1 e1) kX6_hasWay kvX6_hasWay wl_X7_164 6 0 rfl rfl rfl [1, 2, 3, 4, 5, 6, 7] rfl rfl rfl rfl rfl (Nat.le_of_ble_eq_true rfl) ⟨Nat.le_of_ble_eq_true rfl, Nat.le_of_ble_eq_true rfl⟩ ⟨Nat.zero_le _, Nat.zero_le _⟩ dX7_toughest_5 rfl ?_
  refine g_if_ne C 17 11 dX7_toughest_8 (by decide) rfl (fun c => ?_) (fun c => ?_)
  · have h := ifF c h
    refine g_aload_n C 18 0 dX7_toughest_17 rfl rfl ?_
    refine g_get (v := .ref (o 8)) C 21 7 0 6 hin_7 rfl rfl (by decide) wf_X7_48 rfl dX7_toughest_18 rfl ?_
    refine g_iload_n C 22 1 dX7_toughest_21 rfl rfl ?_
    refine bnd h (fun x2 e2 h => ?_)
    refine g_callVr C 25 [] [.int x2] (ct_X3_hardestHour L (o 8) (o 1) (q 1) (Z 1) v1 x2 e2) kX3_hardestHour kvX3_hardestHour wl_X7_313 3 0 rfl rfl rfl [28, 1, 2, 3, 4, 5, 6, 7] rfl rfl rfl rfl rfl (Nat.le_of_ble_eq_true rfl) ⟨Nat.le_of_ble_eq_true rfl, Nat.le_of_ble_eq_true rfl⟩ ⟨Nat.zero_le _, Nat.zero_le _⟩ dX7_toughest_22 rfl ?_
    exact g_iret (st := []) C E dX7_toughest_25 (by obtain rfl := Option.some.inj h; exact ⟨rfl, rfl⟩)
  · have h := ifT c h
    refine g_aload_n C 12 0 dX7_toughest_11 rfl rfl ?_
    refine g_iconst C 13 (-1 : Int32) dX7_toughest_12 rfl rfl ?_
    refine bnd h (fun x3 e3 h => ?_)
    refine g_callVs (w' := (cells7 L o q x3.2)) C 16 [] [.int x3.1] (ct_X7_refuse L o q Z (-1 : Int32) x3 e3) kX7_refuse kvX7_refuse wl_X7_74 7 0 rfl rfl rfl rfl rfl rfl rfl (Nat.le_of_ble_eq_true rfl) ⟨Nat.le_of_ble_eq_true rfl, Nat.le_of_ble_eq_true rfl⟩ ⟨Nat.zero_le _, Nat.zero_le _⟩ dX7_toughest_13 rfl ?_
    exact g_iret (st := []) C E dX7_toughest_16 (by obtain rfl := Option.some.inj h; exact ⟨rfl, rfl⟩)
set_option maxHeartbeats 4000000 in
set_option maxRecDepth 100000 in
theorem ct_X7_equal (L : LL) (o : Nat → Nat) (q : Nat → Nat → Nat) (Z : Nat → OS) (x : Int32) (h : f_X7_equal Z = some x) : Ct L yX7_equal cX7_equal 1 (some .int) (rmk 6 0 0 142) 0 0 [.ref (o 0)] (cells7 L o q Z) (Pv (some (.int x)) (cells7 L o q Z)) := by
  refine g_enter (lv := [(0, .ref (o 0))]) kX7_equal rfl rfl (Nat.le_of_ble_eq_true rfl) (fun Γ C E hNL => ?_)
  unfold f_X7_equal at h
  refine g_aload_n C 1 0 dX7_equal_0 rfl rfl ?_
  refine g_get (v := .ref (o 7)) C 4 7 0 8 hin_7 rfl rfl (by decide) wf_X7_62 rfl dX7_equal_1 rfl ?_
  refine bnd h (fun x1 e1 h => ?_)
  refine g_callVr C 7 [] [.int x1] (ct_X1_twosAlike L (o 7) (q 7) (o 1) (q 1) (Z 7) (Z 1) x1 e1) kX1_twosAlike kvX1_twosAlike wl_X7_316 1 0 rfl rfl rfl [30, 31, 1, 2, 3, 4, 5, 6, 7] rfl rfl rfl rfl rfl (Nat.le_of_ble_eq_true rfl) ⟨Nat.le_of_ble_eq_true rfl, Nat.le_of_ble_eq_true rfl⟩ ⟨Nat.zero_le _, Nat.zero_le _⟩ dX7_equal_4 rfl ?_
  exact g_iret (st := []) C E dX7_equal_7 (by obtain rfl := Option.some.inj h; exact ⟨rfl, rfl⟩)
set_option maxHeartbeats 4000000 in
set_option maxRecDepth 100000 in
theorem ct_X7_longest (L : LL) (o : Nat → Nat) (q : Nat → Nat → Nat) (Z : Nat → OS) (v1 : Int32) (x : (Int32 × (Nat → OS))) (h : f_X7_longest Z v1 = some x) : Ct L yX7_longest cX7_longest 3 (some .int) (rmk 3 0 0 68) 0 0 [.ref (o 0), .int v1] (cells7 L o q Z) (Pv (some (.int x.1)) (cells7 L o q x.2)) := by
  refine g_enter (lv := [(0, .ref (o 0)), (1, .int v1)]) kX7_longest rfl rfl (Nat.le_of_ble_eq_true rfl) (fun Γ C E hNL => ?_)
  unfold f_X7_longest at h
  refine g_iload_n C 1 1 dX7_longest_0 rfl rfl ?_
  refine bnd h (fun x1 e1 h => ?_)
  refine g_callSr C 4 [] [.int x1] (ct_X7_isEither L v1 x1 e1) kX7_isEither kvX7_isEither wl_X7_214 [] rfl rfl rfl rfl rfl (Nat.le_of_ble_eq_true rfl) ⟨Nat.le_of_ble_eq_true rfl, Nat.le_of_ble_eq_true rfl⟩ ⟨Nat.zero_le _, Nat.zero_le _⟩ dX7_longest_1 rfl ?_
  refine g_if_ne C 14 7 dX7_longest_4 (by decide) rfl (fun c => ?_) (fun c => ?_)
  · have h := ifF c h
    refine g_aload_n C 15 0 dX7_longest_14 rfl rfl ?_
    refine g_get (v := .ref (o 8)) C 18 7 0 6 hin_7 rfl rfl (by decide) wf_X7_48 rfl dX7_longest_15 rfl ?_
    refine bnd h (fun x2 e2 h => ?_)
    refine g_callVr C 21 [] [.int x2] (ct_X3_longestWay L (o 8) (o 1) (q 1) (Z 1) x2 e2) kX3_longestWay kvX3_longestWay wl_X7_319 3 0 rfl rfl rfl [28, 1, 2, 3, 4, 5, 6, 7] rfl rfl rfl rfl rfl (Nat.le_of_ble_eq_true rfl) ⟨Nat.le_of_ble_eq_true rfl, Nat.le_of_ble_eq_true rfl⟩ ⟨Nat.zero_le _, Nat.zero_le _⟩ dX7_longest_18 rfl ?_
    refine g_istore_n C 22 2 [(2, .int x2), (0, .ref (o 0)), (1, .int v1)] dX7_longest_21 rfl rfl 3 hNL (by decide) rfl ?_
    refine g_iload_n C 23 2 dX7_longest_22 rfl rfl ?_
    refine g_if_eq C 30 26 dX7_longest_23 (by decide) rfl (fun c => ?_) (fun c => ?_)
    · have h := ifT c h
      refine g_iload_n C 31 0 dX7_longest_30 rfl rfl ?_
      exact g_iret (st := []) C E dX7_longest_31 (by obtain rfl := Option.some.inj h; exact ⟨rfl, rfl⟩)
    · have h := ifF c h
      refine g_iload_n C 27 0 dX7_longest_26 rfl rfl ?_
      refine g_if_ge C 32 30 dX7_longest_27 (by decide) rfl (fun c => ?_) (fun c => ?_)
      · have h := ifT c h
        refine g_aload_n C 33 1 dX7_longest_32 rfl rfl ?_
        refine g_get (v := .ref (o 1)) C 36 7 0 0 hin_7 rfl rfl (by decide) wf_X7_10 rfl dX7_longest_33 rfl ?_
        refine g_aload_n C 37 1 dX7_longest_36 rfl rfl ?_
        refine g_get (v := .ref (o 1)) C 40 7 0 0 hin_7 rfl rfl (by decide) wf_X7_10 rfl dX7_longest_37 rfl ?_
        refine g_get (v := .ref ((q 1) 9)) C 43 6 1 9 hin_6 rfl rfl (by decide) wf_X7_170 rfl dX7_longest_40 rfl ?_
        refine g_iload_n C 44 0 dX7_longest_43 rfl rfl ?_
        refine bnd h (fun x3 e3 h => ?_)
        refine g_callSr C 47 [.ref (o 1)] [.int x3, .ref (o 1)] (ct_X7_at L ((q 1) 9) 6 ((Z 1).2 9) x2 x3 e3) kX7_at kvX7_at wl_X7_100 [5] rfl rfl rfl rfl rfl (Nat.le_of_ble_eq_true rfl) ⟨Nat.le_of_ble_eq_true rfl, Nat.le_of_ble_eq_true rfl⟩ ⟨Nat.zero_le _, Nat.zero_le _⟩ dX7_longest_44 rfl ?_
        refine bnd h (fun x4 e4 h => ?_)
        refine g_callVr C 50 [] [.int x4] (ct_X6_minutesOn L (o 1) (q 1) (Z 1) x3 x4 e4) kX6_minutesOn kvX6_minutesOn wl_X7_173 6 0 rfl rfl rfl [1, 2, 3, 4, 5, 6, 7] rfl rfl rfl rfl rfl (Nat.le_of_ble_eq_true rfl) ⟨Nat.le_of_ble_eq_true rfl, Nat.le_of_ble_eq_true rfl⟩ ⟨Nat.zero_le _, Nat.zero_le _⟩ dX7_longest_47 rfl ?_
        exact g_iret (st := []) C E dX7_longest_50 (by obtain rfl := Option.some.inj h; exact ⟨rfl, rfl⟩)
      · have h := ifF c h
        refine g_iload_n C 31 0 dX7_longest_30 rfl rfl ?_
        exact g_iret (st := []) C E dX7_longest_31 (by obtain rfl := Option.some.inj h; exact ⟨rfl, rfl⟩)
  · have h := ifT c h
    refine g_aload_n C 8 0 dX7_longest_7 rfl rfl ?_
    refine g_bipush C 10 (-2 : Int32) dX7_longest_8 rfl rfl ?_
    refine bnd h (fun x5 e5 h => ?_)
    refine g_callVs (w' := (cells7 L o q x5.2)) C 13 [] [.int x5.1] (ct_X7_refuse L o q Z (-2 : Int32) x5 e5) kX7_refuse kvX7_refuse wl_X7_74 7 0 rfl rfl rfl rfl rfl rfl rfl (Nat.le_of_ble_eq_true rfl) ⟨Nat.le_of_ble_eq_true rfl, Nat.le_of_ble_eq_true rfl⟩ ⟨Nat.zero_le _, Nat.zero_le _⟩ dX7_longest_10 rfl ?_
    exact g_iret (st := []) C E dX7_longest_13 (by obtain rfl := Option.some.inj h; exact ⟨rfl, rfl⟩)
set_option maxHeartbeats 4000000 in
set_option maxRecDepth 100000 in
theorem ct_X7_row (L : LL) (o : Nat → Nat) (q : Nat → Nat → Nat) (Z : Nat → OS) (v1 : Int32) (x : (Int32 × (Nat → OS))) (h : f_X7_row Z v1 = some x) : Ct L yX7_row cX7_row 2 (some .int) (rmk 2 0 0 43) 0 0 [.ref (o 0), .int v1] (cells7 L o q Z) (Pv (some (.int x.1)) (cells7 L o q x.2)) := by
  refine g_enter (lv := [(0, .ref (o 0)), (1, .int v1)]) kX7_row rfl rfl (Nat.le_of_ble_eq_true rfl) (fun Γ C E hNL => ?_)
  unfold f_X7_row at h
  refine g_iload_n C 1 1 dX7_row_0 rfl rfl ?_
  refine g_if_ge C 11 4 dX7_row_1 (by decide) rfl (fun c => ?_) (fun c => ?_)
  · have h := ifT c h
    refine g_iload_n C 12 1 dX7_row_11 rfl rfl ?_
    refine g_bipush C 14 (99 : Int32) dX7_row_12 rfl rfl ?_
    refine g_icmp_gt C 29 17 dX7_row_14 (by decide) rfl (fun c => ?_) (fun c => ?_)
    · have h := ifT c h
      refine g_aload_n C 30 0 dX7_row_29 rfl rfl ?_
      refine g_bipush C 32 (-6 : Int32) dX7_row_30 rfl rfl ?_
      refine bnd h (fun x1 e1 h => ?_)
      refine g_callVs (w' := (cells7 L o q x1.2)) C 35 [] [.int x1.1] (ct_X7_refuse L o q Z (-6 : Int32) x1 e1) kX7_refuse kvX7_refuse wl_X7_74 7 0 rfl rfl rfl rfl rfl rfl rfl (Nat.le_of_ble_eq_true rfl) ⟨Nat.le_of_ble_eq_true rfl, Nat.le_of_ble_eq_true rfl⟩ ⟨Nat.zero_le _, Nat.zero_le _⟩ dX7_row_32 rfl ?_
      exact g_iret (st := []) C E dX7_row_35 (by obtain rfl := Option.some.inj h; exact ⟨rfl, rfl⟩)
    · have h := ifF c h
      refine g_aload_n C 18 0 dX7_row_17 rfl rfl ?_
      refine g_get (v := .ref (o 6)) C 21 7 0 5 hin_7 rfl rfl (by decide) wf_X7_41 rfl dX7_row_18 rfl ?_
      refine g_get (v := .int ((Z 6).1 0)) C 24 5 26 0 hin_5 rfl rfl (by decide) wf_X7_322 rfl dX7_row_21 rfl ?_
      refine g_bipush C 26 (12 : Int32) dX7_row_24 rfl rfl ?_
      refine g_icmp_lt C 36 29 dX7_row_26 (by decide) rfl (fun c => ?_) (fun c => ?_)
      · have h := ifT c h
        refine g_aload_n C 37 0 dX7_row_36 rfl rfl ?_
        refine g_get (v := .ref (o 6)) C 40 7 0 5 hin_7 rfl rfl (by decide) wf_X7_41 rfl dX7_row_37 rfl ?_
        refine g_iload_n C 41 1 dX7_row_40 rfl rfl ?_
        refine bnd h (fun x2 e2 h => ?_)
        refine g_callVw (w' := (cells7 L o q (upA Z 6 x2.2))) C 44 [] [.int x2.1] (ct_X5_add L (o 6) (q 6) (o 1) (q 1) (Z 6) (Z 1) v1 x2 e2) kX5_add kvX5_add wl_X7_323 5 0 rfl rfl rfl [26, 27, 1, 2, 3, 4, 5, 6, 7] rfl rfl rfl rfl rfl rfl rfl (Nat.le_of_ble_eq_true rfl) ⟨Nat.le_of_ble_eq_true rfl, Nat.le_of_ble_eq_true rfl⟩ ⟨Nat.zero_le _, Nat.zero_le _⟩ dX7_row_41 rfl ?_
        exact g_iret (st := []) C E dX7_row_44 (by obtain rfl := Option.some.inj h; exact ⟨rfl, rfl⟩)
      · have h := ifF c h
        refine g_aload_n C 30 0 dX7_row_29 rfl rfl ?_
        refine g_bipush C 32 (-6 : Int32) dX7_row_30 rfl rfl ?_
        refine bnd h (fun x3 e3 h => ?_)
        refine g_callVs (w' := (cells7 L o q x3.2)) C 35 [] [.int x3.1] (ct_X7_refuse L o q Z (-6 : Int32) x3 e3) kX7_refuse kvX7_refuse wl_X7_74 7 0 rfl rfl rfl rfl rfl rfl rfl (Nat.le_of_ble_eq_true rfl) ⟨Nat.le_of_ble_eq_true rfl, Nat.le_of_ble_eq_true rfl⟩ ⟨Nat.zero_le _, Nat.zero_le _⟩ dX7_row_32 rfl ?_
        exact g_iret (st := []) C E dX7_row_35 (by obtain rfl := Option.some.inj h; exact ⟨rfl, rfl⟩)
  · have h := ifF c h
    refine g_aload_n C 5 0 dX7_row_4 rfl rfl ?_
    refine g_bipush C 7 (-4 : Int32) dX7_row_5 rfl rfl ?_
    refine bnd h (fun x4 e4 h => ?_)
    refine g_callVs (w' := (cells7 L o q x4.2)) C 10 [] [.int x4.1] (ct_X7_refuse L o q Z (-4 : Int32) x4 e4) kX7_refuse kvX7_refuse wl_X7_74 7 0 rfl rfl rfl rfl rfl rfl rfl (Nat.le_of_ble_eq_true rfl) ⟨Nat.le_of_ble_eq_true rfl, Nat.le_of_ble_eq_true rfl⟩ ⟨Nat.zero_le _, Nat.zero_le _⟩ dX7_row_7 rfl ?_
    exact g_iret (st := []) C E dX7_row_10 (by obtain rfl := Option.some.inj h; exact ⟨rfl, rfl⟩)
set_option maxHeartbeats 4000000 in
set_option maxRecDepth 100000 in
theorem ct_X7_judge (L : LL) (o : Nat → Nat) (q : Nat → Nat → Nat) (Z : Nat → OS) (v1 : Int32) (x : (Int32 × (Nat → OS))) (h : f_X7_judge Z v1 = some x) : Ct L yX7_judge cX7_judge 3 (some .int) (rmk 4 0 0 90) 0 0 [.ref (o 0), .int v1] (cells7 L o q Z) (Pv (some (.int x.1)) (cells7 L o q x.2)) := by
  refine g_enter (lv := [(0, .ref (o 0)), (1, .int v1)]) kX7_judge rfl rfl (Nat.le_of_ble_eq_true rfl) (fun Γ C E hNL => ?_)
  unfold f_X7_judge at h
  refine g_aload_n C 1 0 dX7_judge_0 rfl rfl ?_
  refine g_get (v := .ref (o 1)) C 4 7 0 0 hin_7 rfl rfl (by decide) wf_X7_10 rfl dX7_judge_1 rfl ?_
  refine g_iload_n C 5 1 dX7_judge_4 rfl rfl ?_
  refine bnd h (fun x1 e1 h => ?_)
  refine g_callVr C 8 [] [.int x1] (ct_X6_hasLearner L (o 1) (q 1) (Z 1) v1 x1 e1) kX6_hasLearner kvX6_hasLearner wl_X7_120 6 0 rfl rfl rfl [1, 2, 3, 4, 5, 6, 7] rfl rfl rfl rfl rfl (Nat.le_of_ble_eq_true rfl) ⟨Nat.le_of_ble_eq_true rfl, Nat.le_of_ble_eq_true rfl⟩ ⟨Nat.zero_le _, Nat.zero_le _⟩ dX7_judge_5 rfl ?_
  refine g_if_ne C 17 11 dX7_judge_8 (by decide) rfl (fun c => ?_) (fun c => ?_)
  · have h := ifF c h
    refine g_aload_n C 18 0 dX7_judge_17 rfl rfl ?_
    refine g_get (v := .ref (o 6)) C 21 7 0 5 hin_7 rfl rfl (by decide) wf_X7_41 rfl dX7_judge_18 rfl ?_
    refine g_iload_n C 22 1 dX7_judge_21 rfl rfl ?_
    refine bnd h (fun x2 e2 h => ?_)
    refine g_callVr C 25 [] [.int x2] (ct_X5_firstNotSo L (o 6) (q 6) (o 1) (q 1) (Z 6) (Z 1) v1 x2 e2) kX5_firstNotSo kvX5_firstNotSo wl_X7_324 5 0 rfl rfl rfl [26, 27, 1, 2, 3, 4, 5, 6, 7] rfl rfl rfl rfl rfl (Nat.le_of_ble_eq_true rfl) ⟨Nat.le_of_ble_eq_true rfl, Nat.le_of_ble_eq_true rfl⟩ ⟨Nat.zero_le _, Nat.zero_le _⟩ dX7_judge_22 rfl ?_
    refine g_istore_n C 26 2 [(2, .int x2), (0, .ref (o 0)), (1, .int v1)] dX7_judge_25 rfl rfl 3 hNL (by decide) rfl ?_
    refine g_aload_n C 27 1 dX7_judge_26 rfl rfl ?_
    refine g_get (v := .ref (o 6)) C 30 7 0 5 hin_7 rfl rfl (by decide) wf_X7_41 rfl dX7_judge_27 rfl ?_
    refine g_iconst C 31 (0 : Int32) dX7_judge_30 rfl rfl ?_
    refine g_put (w' := (cells7 L o q (upA Z 6 (su (Z 6) 0 (0 : Int32))))) C 34 5 26 0 hin_5 tyX5 tyX5_ok nmX5 rfl rfl (by decide) wf_X7_322 rfl rfl rfl (Nat.le_of_ble_eq_true rfl) dX7_judge_31 rfl rfl ?_
    refine g_iload_n C 35 0 dX7_judge_34 rfl rfl ?_
    exact g_iret (st := []) C E dX7_judge_35 (by obtain rfl := Option.some.inj h; exact ⟨rfl, rfl⟩)
  · have h := ifT c h
    refine g_aload_n C 12 0 dX7_judge_11 rfl rfl ?_
    refine g_iconst C 13 (-1 : Int32) dX7_judge_12 rfl rfl ?_
    refine bnd h (fun x3 e3 h => ?_)
    refine g_callVs (w' := (cells7 L o q x3.2)) C 16 [] [.int x3.1] (ct_X7_refuse L o q Z (-1 : Int32) x3 e3) kX7_refuse kvX7_refuse wl_X7_74 7 0 rfl rfl rfl rfl rfl rfl rfl (Nat.le_of_ble_eq_true rfl) ⟨Nat.le_of_ble_eq_true rfl, Nat.le_of_ble_eq_true rfl⟩ ⟨Nat.zero_le _, Nat.zero_le _⟩ dX7_judge_13 rfl ?_
    exact g_iret (st := []) C E dX7_judge_16 (by obtain rfl := Option.some.inj h; exact ⟨rfl, rfl⟩)
set_option maxHeartbeats 4000000 in
set_option maxRecDepth 100000 in
theorem ct_X7_clear (L : LL) (o : Nat → Nat) (q : Nat → Nat → Nat) (Z : Nat → OS) (x : (Int32 × (Nat → OS))) (h : f_X7_clear Z = some x) : Ct L yX7_clear cX7_clear 2 (some .int) (rmk 0 0 0 0) 0 0 [.ref (o 0)] (cells7 L o q Z) (Pv (some (.int x.1)) (cells7 L o q x.2)) := by
  refine g_enter (lv := [(0, .ref (o 0))]) kX7_clear rfl rfl (Nat.le_of_ble_eq_true rfl) (fun Γ C E hNL => ?_)
  unfold f_X7_clear at h
  refine g_aload_n C 1 0 dX7_clear_0 rfl rfl ?_
  refine g_get (v := .ref (o 6)) C 4 7 0 5 hin_7 rfl rfl (by decide) wf_X7_41 rfl dX7_clear_1 rfl ?_
  refine g_get (v := .int ((Z 6).1 0)) C 7 5 26 0 hin_5 rfl rfl (by decide) wf_X7_322 rfl dX7_clear_4 rfl ?_
  refine g_istore_n C 8 1 [(1, .int ((Z 6).1 0)), (0, .ref (o 0))] dX7_clear_7 rfl rfl 2 hNL (by decide) rfl ?_
  refine g_aload_n C 9 1 dX7_clear_8 rfl rfl ?_
  refine g_get (v := .ref (o 6)) C 12 7 0 5 hin_7 rfl rfl (by decide) wf_X7_41 rfl dX7_clear_9 rfl ?_
  refine g_iconst C 13 (0 : Int32) dX7_clear_12 rfl rfl ?_
  refine g_put (w' := (cells7 L o q (upA Z 6 (su (Z 6) 0 (0 : Int32))))) C 16 5 26 0 hin_5 tyX5 tyX5_ok nmX5 rfl rfl (by decide) wf_X7_322 rfl rfl rfl (Nat.le_of_ble_eq_true rfl) dX7_clear_13 rfl rfl ?_
  refine g_iload_n C 17 0 dX7_clear_16 rfl rfl ?_
  exact g_iret (st := []) C E dX7_clear_17 (by obtain rfl := Option.some.inj h; exact ⟨rfl, rfl⟩)
set_option maxHeartbeats 4000000 in
set_option maxRecDepth 100000 in
theorem ct_X7_lots (L : LL) (o : Nat → Nat) (q : Nat → Nat → Nat) (Z : Nat → OS) (v1 : Int32) (v2 : Int32) (v3 : Int32) (x : (Int32 × (Nat → OS))) (h : f_X7_lots Z v1 v2 v3 = some x) : Ct L yX7_lots cX7_lots 4 (some .int) (rmk 5 0 0 125) 0 0 [.ref (o 0), .int v1, .int v2, .int v3] (cells7 L o q Z) (Pv (some (.int x.1)) (cells7 L o q x.2)) := by
  refine g_enter (lv := [(0, .ref (o 0)), (1, .int v1), (2, .int v2), (3, .int v3)]) kX7_lots rfl rfl (Nat.le_of_ble_eq_true rfl) (fun Γ C E hNL => ?_)
  unfold f_X7_lots at h
  refine g_iload_n C 1 1 dX7_lots_0 rfl rfl ?_
  refine g_iconst C 2 (1 : Int32) dX7_lots_1 rfl rfl ?_
  refine g_icmp_ge C 12 5 dX7_lots_2 (by decide) rfl (fun c => ?_) (fun c => ?_)
  · have h := ifT c h
    refine g_iload_n C 13 1 dX7_lots_12 rfl rfl ?_
    refine g_bipush C 15 (20 : Int32) dX7_lots_13 rfl rfl ?_
    refine g_icmp_le C 25 18 dX7_lots_15 (by decide) rfl (fun c => ?_) (fun c => ?_)
    · have h := ifT c h
      refine g_iload_n C 26 3 dX7_lots_25 rfl rfl ?_
      refine bnd h (fun x1 e1 h => ?_)
      refine g_callSr C 29 [] [.int x1] (ct_X7_isEither L v3 x1 e1) kX7_isEither kvX7_isEither wl_X7_214 [] rfl rfl rfl rfl rfl (Nat.le_of_ble_eq_true rfl) ⟨Nat.le_of_ble_eq_true rfl, Nat.le_of_ble_eq_true rfl⟩ ⟨Nat.zero_le _, Nat.zero_le _⟩ dX7_lots_26 rfl ?_
      refine g_if_ne C 39 32 dX7_lots_29 (by decide) rfl (fun c => ?_) (fun c => ?_)
      · have h := ifF c h
        refine g_aload_n C 40 0 dX7_lots_39 rfl rfl ?_
        refine g_get (v := .ref (o 7)) C 43 7 0 8 hin_7 rfl rfl (by decide) wf_X7_62 rfl dX7_lots_40 rfl ?_
        refine g_iload_n C 44 1 dX7_lots_43 rfl rfl ?_
        refine g_iload_n C 45 2 dX7_lots_44 rfl rfl ?_
        refine g_iload_n C 46 3 dX7_lots_45 rfl rfl ?_
        refine bnd h (fun x2 e2 h => ?_)
        refine g_callVr C 49 [] [.int x2] (ct_X1_byLot L (o 7) (q 7) (o 1) (q 1) (Z 7) (Z 1) v1 v2 v3 x2 e2) kX1_byLot kvX1_byLot wl_X7_327 1 0 rfl rfl rfl [30, 31, 1, 2, 3, 4, 5, 6, 7] rfl rfl rfl rfl rfl (Nat.le_of_ble_eq_true rfl) ⟨Nat.le_of_ble_eq_true rfl, Nat.le_of_ble_eq_true rfl⟩ ⟨Nat.zero_le _, Nat.zero_le _⟩ dX7_lots_46 rfl ?_
        exact g_iret (st := []) C E dX7_lots_49 (by obtain rfl := Option.some.inj h; exact ⟨rfl, rfl⟩)
      · have h := ifT c h
        refine g_aload_n C 33 0 dX7_lots_32 rfl rfl ?_
        refine g_bipush C 35 (-2 : Int32) dX7_lots_33 rfl rfl ?_
        refine bnd h (fun x3 e3 h => ?_)
        refine g_callVs (w' := (cells7 L o q x3.2)) C 38 [] [.int x3.1] (ct_X7_refuse L o q Z (-2 : Int32) x3 e3) kX7_refuse kvX7_refuse wl_X7_74 7 0 rfl rfl rfl rfl rfl rfl rfl (Nat.le_of_ble_eq_true rfl) ⟨Nat.le_of_ble_eq_true rfl, Nat.le_of_ble_eq_true rfl⟩ ⟨Nat.zero_le _, Nat.zero_le _⟩ dX7_lots_35 rfl ?_
        exact g_iret (st := []) C E dX7_lots_38 (by obtain rfl := Option.some.inj h; exact ⟨rfl, rfl⟩)
    · have h := ifF c h
      refine g_aload_n C 19 0 dX7_lots_18 rfl rfl ?_
      refine g_bipush C 21 (-6 : Int32) dX7_lots_19 rfl rfl ?_
      refine bnd h (fun x4 e4 h => ?_)
      refine g_callVs (w' := (cells7 L o q x4.2)) C 24 [] [.int x4.1] (ct_X7_refuse L o q Z (-6 : Int32) x4 e4) kX7_refuse kvX7_refuse wl_X7_74 7 0 rfl rfl rfl rfl rfl rfl rfl (Nat.le_of_ble_eq_true rfl) ⟨Nat.le_of_ble_eq_true rfl, Nat.le_of_ble_eq_true rfl⟩ ⟨Nat.zero_le _, Nat.zero_le _⟩ dX7_lots_21 rfl ?_
      exact g_iret (st := []) C E dX7_lots_24 (by obtain rfl := Option.some.inj h; exact ⟨rfl, rfl⟩)
  · have h := ifF c h
    refine g_aload_n C 6 0 dX7_lots_5 rfl rfl ?_
    refine g_bipush C 8 (-4 : Int32) dX7_lots_6 rfl rfl ?_
    refine bnd h (fun x5 e5 h => ?_)
    refine g_callVs (w' := (cells7 L o q x5.2)) C 11 [] [.int x5.1] (ct_X7_refuse L o q Z (-4 : Int32) x5 e5) kX7_refuse kvX7_refuse wl_X7_74 7 0 rfl rfl rfl rfl rfl rfl rfl (Nat.le_of_ble_eq_true rfl) ⟨Nat.le_of_ble_eq_true rfl, Nat.le_of_ble_eq_true rfl⟩ ⟨Nat.zero_le _, Nat.zero_le _⟩ dX7_lots_8 rfl ?_
    exact g_iret (st := []) C E dX7_lots_11 (by obtain rfl := Option.some.inj h; exact ⟨rfl, rfl⟩)
set_option maxHeartbeats 4000000 in
set_option maxRecDepth 100000 in
theorem ct_X7_image (L : LL) (o : Nat → Nat) (q : Nat → Nat → Nat) (Z : Nat → OS) (x : (Int32 × (Nat → OS))) (h : f_X7_image Z = some x) : Ct L yX7_image cX7_image 1 (some .int) (rmk 3 0 0 66) 0 0 [.ref (o 0)] (cells7 L o q Z) (Pv (some (.int x.1)) (cells7 L o q x.2)) := by
  refine g_enter (lv := [(0, .ref (o 0))]) kX7_image rfl rfl (Nat.le_of_ble_eq_true rfl) (fun Γ C E hNL => ?_)
  unfold f_X7_image at h
  refine g_aload_n C 1 0 dX7_image_0 rfl rfl ?_
  refine g_get (v := .ref (o 2)) C 4 7 0 1 hin_7 rfl rfl (by decide) wf_X7_16 rfl dX7_image_1 rfl ?_
  refine g_aload_n C 5 0 dX7_image_4 rfl rfl ?_
  refine g_get (v := .ref (o 1)) C 8 7 0 0 hin_7 rfl rfl (by decide) wf_X7_10 rfl dX7_image_5 rfl ?_
  refine bnd h (fun x1 e1 h => ?_)
  refine g_callVw (w' := (cells7 L o q (upA Z 2 x1))) C 11 [] [] (ct_X6_copyFrom L (o 2) (q 2) (o 1) (q 1) (Z 2) (Z 1) x1 e1) kX6_copyFrom kvX6_copyFrom wl_X7_85 6 0 rfl rfl rfl [8, 9, 10, 11, 12, 13, 14, 1, 2, 3, 4, 5, 6, 7] rfl rfl rfl rfl rfl rfl rfl (Nat.le_of_ble_eq_true rfl) ⟨Nat.le_of_ble_eq_true rfl, Nat.le_of_ble_eq_true rfl⟩ ⟨Nat.zero_le _, Nat.zero_le _⟩ dX7_image_8 rfl ?_
  refine g_aload_n C 12 0 dX7_image_11 rfl rfl ?_
  refine g_iconst C 13 (1 : Int32) dX7_image_12 rfl rfl ?_
  refine g_put (w' := (cells7 L o q (upA (upA Z 0 (su (Z 0) 10 (1 : Int32))) 2 x1))) C 16 7 0 10 hin_7 tyX7 tyX7_ok nmX7 rfl rfl (by decide) wf_X7_70 rfl (by decide +kernel) (by decide +kernel) (Nat.le_of_ble_eq_true rfl) dX7_image_13 rfl rfl ?_
  refine g_aload_n C 17 0 dX7_image_16 rfl rfl ?_
  refine g_get (v := .ref (o 1)) C 20 7 0 0 hin_7 rfl rfl (by decide) wf_X7_10 rfl dX7_image_17 rfl ?_
  refine g_get (v := .int ((Z 1).1 5)) C 23 6 1 5 hin_6 rfl rfl (by decide) wf_X7_330 rfl dX7_image_20 rfl ?_
  exact g_iret (st := []) C E dX7_image_23 (by obtain rfl := Option.some.inj h; exact ⟨rfl, rfl⟩)
set_option maxHeartbeats 4000000 in
set_option maxRecDepth 100000 in
theorem ct_X7_restore (L : LL) (o : Nat → Nat) (q : Nat → Nat → Nat) (Z : Nat → OS) (x : (Int32 × (Nat → OS))) (h : f_X7_restore Z = some x) : Ct L yX7_restore cX7_restore 1 (some .int) (rmk 3 0 0 66) 0 0 [.ref (o 0)] (cells7 L o q Z) (Pv (some (.int x.1)) (cells7 L o q x.2)) := by
  refine g_enter (lv := [(0, .ref (o 0))]) kX7_restore rfl rfl (Nat.le_of_ble_eq_true rfl) (fun Γ C E hNL => ?_)
  unfold f_X7_restore at h
  refine g_aload_n C 1 0 dX7_restore_0 rfl rfl ?_
  refine g_get (v := .int ((Z 0).1 10)) C 4 7 0 10 hin_7 rfl rfl (by decide) wf_X7_70 rfl dX7_restore_1 rfl ?_
  refine g_if_ne C 14 7 dX7_restore_4 (by decide) rfl (fun c => ?_) (fun c => ?_)
  · have h := ifF c h
    refine g_aload_n C 15 0 dX7_restore_14 rfl rfl ?_
    refine g_get (v := .ref (o 1)) C 18 7 0 0 hin_7 rfl rfl (by decide) wf_X7_10 rfl dX7_restore_15 rfl ?_
    refine g_aload_n C 19 0 dX7_restore_18 rfl rfl ?_
    refine g_get (v := .ref (o 2)) C 22 7 0 1 hin_7 rfl rfl (by decide) wf_X7_16 rfl dX7_restore_19 rfl ?_
    refine bnd h (fun x1 e1 h => ?_)
    refine g_callVw (w' := (cells7 L o q (upA Z 1 x1))) C 25 [] [] (ct_X6_copyFrom L (o 1) (q 1) (o 2) (q 2) (Z 1) (Z 2) x1 e1) kX6_copyFrom kvX6_copyFrom wl_X7_85 6 0 rfl rfl rfl [1, 2, 3, 4, 5, 6, 7, 8, 9, 10, 11, 12, 13, 14] rfl rfl rfl rfl rfl rfl rfl (Nat.le_of_ble_eq_true rfl) ⟨Nat.le_of_ble_eq_true rfl, Nat.le_of_ble_eq_true rfl⟩ ⟨Nat.zero_le _, Nat.zero_le _⟩ dX7_restore_22 rfl ?_
    refine g_aload_n C 26 0 dX7_restore_25 rfl rfl ?_
    refine g_get (v := .ref (o 4)) C 29 7 0 3 hin_7 rfl rfl (by decide) wf_X7_25 rfl dX7_restore_26 rfl ?_
    refine g_iconst C 30 (0 : Int32) dX7_restore_29 rfl rfl ?_
    refine g_put (w' := (cells7 L o q (upA (upA Z 1 x1) 4 (su (Z 4) 0 (0 : Int32))))) C 33 4 22 0 hin_4 tyX4 tyX4_ok nmX4 rfl rfl (by decide) wf_X7_92 rfl rfl rfl (Nat.le_of_ble_eq_true rfl) dX7_restore_30 rfl rfl ?_
    refine g_aload_n C 34 0 dX7_restore_33 rfl rfl ?_
    refine g_get (v := .ref (o 1)) C 37 7 0 0 hin_7 rfl rfl (by decide) wf_X7_10 rfl dX7_restore_34 rfl ?_
    refine g_get (v := .int (x1.1 5)) C 40 6 1 5 hin_6 rfl rfl (by decide) wf_X7_330 rfl dX7_restore_37 rfl ?_
    exact g_iret (st := []) C E dX7_restore_40 (by obtain rfl := Option.some.inj h; exact ⟨rfl, rfl⟩)
  · have h := ifT c h
    refine g_aload_n C 8 0 dX7_restore_7 rfl rfl ?_
    refine g_bipush C 10 (-3 : Int32) dX7_restore_8 rfl rfl ?_
    refine bnd h (fun x2 e2 h => ?_)
    refine g_callVs (w' := (cells7 L o q x2.2)) C 13 [] [.int x2.1] (ct_X7_refuse L o q Z (-3 : Int32) x2 e2) kX7_refuse kvX7_refuse wl_X7_74 7 0 rfl rfl rfl rfl rfl rfl rfl (Nat.le_of_ble_eq_true rfl) ⟨Nat.le_of_ble_eq_true rfl, Nat.le_of_ble_eq_true rfl⟩ ⟨Nat.zero_le _, Nat.zero_le _⟩ dX7_restore_10 rfl ?_
    exact g_iret (st := []) C E dX7_restore_13 (by obtain rfl := Option.some.inj h; exact ⟨rfl, rfl⟩)
set_option maxHeartbeats 4000000 in
set_option maxRecDepth 100000 in
theorem ct_X7_count (L : LL) (o : Nat → Nat) (q : Nat → Nat → Nat) (Z : Nat → OS) (v1 : Int32) (x : Int32) (h : f_X7_count Z v1 = some x) : Ct L yX7_count cX7_count 2 (some .int) (rmk 2 0 0 43) 0 0 [.ref (o 0), .int v1] (cells7 L o q Z) (Pv (some (.int x)) (cells7 L o q Z)) := by
  refine g_enter (lv := [(0, .ref (o 0)), (1, .int v1)]) kX7_count rfl rfl (Nat.le_of_ble_eq_true rfl) (fun Γ C E hNL => ?_)
  have J_24 : ∀ (v1 : Int32), j_X7_count_24 Z  v1 = some x → G L Γ 0 0 (cells7 L o q Z) 24 [(0, .ref (o 0)), (1, .int v1)] [] := by
    intro v1 h
    unfold j_X7_count_24 at h
    refine g_iload_n C 25 1 dX7_count_24 rfl rfl ?_
    by_cases c0 : v1 = (0 : Int32)
    · have h := ifT c0 h
      refine g_tabIn C 80 (55) dX7_count_25 (by rw [c0]; decide) (by rw [c0]; decide) (by rw [c0]; rfl) (by decide) ?_
      refine g_aload_n C 81 0 dX7_count_80 rfl rfl ?_
      refine g_get (v := .ref (o 1)) C 84 7 0 0 hin_7 rfl rfl (by decide) wf_X7_10 rfl dX7_count_81 rfl ?_
      refine g_get (v := .int ((Z 1).1 0)) C 87 6 1 0 hin_6 rfl rfl (by decide) wf_X7_333 rfl dX7_count_84 rfl ?_
      exact g_iret (st := []) C E dX7_count_87 (by obtain rfl := Option.some.inj h; exact ⟨rfl, rfl⟩)
    have h := ifF c0 h
    by_cases c1 : v1 = (1 : Int32)
    · have h := ifT c1 h
      refine g_tabIn C 88 (63) dX7_count_25 (by rw [c1]; decide) (by rw [c1]; decide) (by rw [c1]; rfl) (by decide) ?_
      refine g_aload_n C 89 0 dX7_count_88 rfl rfl ?_
      refine g_get (v := .ref (o 1)) C 92 7 0 0 hin_7 rfl rfl (by decide) wf_X7_10 rfl dX7_count_89 rfl ?_
      refine g_get (v := .int ((Z 1).1 1)) C 95 6 1 1 hin_6 rfl rfl (by decide) wf_X7_222 rfl dX7_count_92 rfl ?_
      exact g_iret (st := []) C E dX7_count_95 (by obtain rfl := Option.some.inj h; exact ⟨rfl, rfl⟩)
    have h := ifF c1 h
    by_cases c2 : v1 = (2 : Int32)
    · have h := ifT c2 h
      refine g_tabIn C 96 (71) dX7_count_25 (by rw [c2]; decide) (by rw [c2]; decide) (by rw [c2]; rfl) (by decide) ?_
      refine g_aload_n C 97 0 dX7_count_96 rfl rfl ?_
      refine g_get (v := .ref (o 1)) C 100 7 0 0 hin_7 rfl rfl (by decide) wf_X7_10 rfl dX7_count_97 rfl ?_
      refine g_get (v := .int ((Z 1).1 2)) C 103 6 1 2 hin_6 rfl rfl (by decide) wf_X7_336 rfl dX7_count_100 rfl ?_
      exact g_iret (st := []) C E dX7_count_103 (by obtain rfl := Option.some.inj h; exact ⟨rfl, rfl⟩)
    have h := ifF c2 h
    by_cases c3 : v1 = (3 : Int32)
    · have h := ifT c3 h
      refine g_tabIn C 104 (79) dX7_count_25 (by rw [c3]; decide) (by rw [c3]; decide) (by rw [c3]; rfl) (by decide) ?_
      refine g_aload_n C 105 0 dX7_count_104 rfl rfl ?_
      refine g_get (v := .ref (o 1)) C 108 7 0 0 hin_7 rfl rfl (by decide) wf_X7_10 rfl dX7_count_105 rfl ?_
      refine g_get (v := .int ((Z 1).1 3)) C 111 6 1 3 hin_6 rfl rfl (by decide) wf_X7_110 rfl dX7_count_108 rfl ?_
      exact g_iret (st := []) C E dX7_count_111 (by obtain rfl := Option.some.inj h; exact ⟨rfl, rfl⟩)
    have h := ifF c3 h
    by_cases c4 : v1 = (4 : Int32)
    · have h := ifT c4 h
      refine g_tabIn C 112 (87) dX7_count_25 (by rw [c4]; decide) (by rw [c4]; decide) (by rw [c4]; rfl) (by decide) ?_
      refine g_aload_n C 113 0 dX7_count_112 rfl rfl ?_
      refine g_get (v := .ref (o 1)) C 116 7 0 0 hin_7 rfl rfl (by decide) wf_X7_10 rfl dX7_count_113 rfl ?_
      refine g_get (v := .int ((Z 1).1 4)) C 119 6 1 4 hin_6 rfl rfl (by decide) wf_X7_339 rfl dX7_count_116 rfl ?_
      exact g_iret (st := []) C E dX7_count_119 (by obtain rfl := Option.some.inj h; exact ⟨rfl, rfl⟩)
    have h := ifF c4 h
    by_cases c5 : v1 = (5 : Int32)
    · have h := ifT c5 h
      refine g_tabIn C 120 (95) dX7_count_25 (by rw [c5]; decide) (by rw [c5]; decide) (by rw [c5]; rfl) (by decide) ?_
      refine g_aload_n C 121 0 dX7_count_120 rfl rfl ?_
      refine g_get (v := .ref (o 1)) C 124 7 0 0 hin_7 rfl rfl (by decide) wf_X7_10 rfl dX7_count_121 rfl ?_
      refine g_get (v := .int ((Z 1).1 5)) C 127 6 1 5 hin_6 rfl rfl (by decide) wf_X7_330 rfl dX7_count_124 rfl ?_
      exact g_iret (st := []) C E dX7_count_127 (by obtain rfl := Option.some.inj h; exact ⟨rfl, rfl⟩)
    have h := ifF c5 h
    by_cases c6 : v1 = (6 : Int32)
    · have h := ifT c6 h
      refine g_tabIn C 128 (103) dX7_count_25 (by rw [c6]; decide) (by rw [c6]; decide) (by rw [c6]; rfl) (by decide) ?_
      refine g_aload_n C 129 0 dX7_count_128 rfl rfl ?_
      refine g_get (v := .ref (o 7)) C 132 7 0 8 hin_7 rfl rfl (by decide) wf_X7_62 rfl dX7_count_129 rfl ?_
      refine bnd h (fun x2 e2 h => ?_)
      refine g_callVr C 135 [] [.int x2] (ct_X1_allKnown L (o 7) (q 7) (o 1) (q 1) (Z 7) (Z 1) x2 e2) kX1_allKnown kvX1_allKnown wl_X7_342 1 0 rfl rfl rfl [30, 31, 1, 2, 3, 4, 5, 6, 7] rfl rfl rfl rfl rfl (Nat.le_of_ble_eq_true rfl) ⟨Nat.le_of_ble_eq_true rfl, Nat.le_of_ble_eq_true rfl⟩ ⟨Nat.zero_le _, Nat.zero_le _⟩ dX7_count_132 rfl ?_
      exact g_iret (st := []) C E dX7_count_135 (by obtain rfl := Option.some.inj h; exact ⟨rfl, rfl⟩)
    have h := ifF c6 h
    by_cases c7 : v1 = (7 : Int32)
    · have h := ifT c7 h
      refine g_tabIn C 136 (111) dX7_count_25 (by rw [c7]; decide) (by rw [c7]; decide) (by rw [c7]; rfl) (by decide) ?_
      refine g_aload_n C 137 0 dX7_count_136 rfl rfl ?_
      refine g_get (v := .ref (o 5)) C 140 7 0 4 hin_7 rfl rfl (by decide) wf_X7_32 rfl dX7_count_137 rfl ?_
      refine g_get (v := .int ((Z 5).1 0)) C 143 0 24 0 hin_0 rfl rfl (by decide) wf_X7_78 rfl dX7_count_140 rfl ?_
      exact g_iret (st := []) C E dX7_count_143 (by obtain rfl := Option.some.inj h; exact ⟨rfl, rfl⟩)
    have h := ifF c7 h
    by_cases c8 : v1 = (8 : Int32)
    · have h := ifT c8 h
      refine g_tabIn C 144 (119) dX7_count_25 (by rw [c8]; decide) (by rw [c8]; decide) (by rw [c8]; rfl) (by decide) ?_
      refine g_aload_n C 145 0 dX7_count_144 rfl rfl ?_
      refine g_get (v := .ref (o 6)) C 148 7 0 5 hin_7 rfl rfl (by decide) wf_X7_41 rfl dX7_count_145 rfl ?_
      refine g_get (v := .int ((Z 6).1 0)) C 151 5 26 0 hin_5 rfl rfl (by decide) wf_X7_322 rfl dX7_count_148 rfl ?_
      exact g_iret (st := []) C E dX7_count_151 (by obtain rfl := Option.some.inj h; exact ⟨rfl, rfl⟩)
    have h := ifF c8 h
    by_cases c9 : v1 = (9 : Int32)
    · have h := ifT c9 h
      refine g_tabIn C 152 (127) dX7_count_25 (by rw [c9]; decide) (by rw [c9]; decide) (by rw [c9]; rfl) (by decide) ?_
      refine g_aload_n C 153 0 dX7_count_152 rfl rfl ?_
      refine g_get (v := .ref (o 4)) C 156 7 0 3 hin_7 rfl rfl (by decide) wf_X7_25 rfl dX7_count_153 rfl ?_
      refine g_get (v := .int ((Z 4).1 0)) C 159 4 22 0 hin_4 rfl rfl (by decide) wf_X7_92 rfl dX7_count_156 rfl ?_
      exact g_iret (st := []) C E dX7_count_159 (by obtain rfl := Option.some.inj h; exact ⟨rfl, rfl⟩)
    have h := ifF c9 h
    have t0 := ne_toInt c0 (show ((0 : Int32) : Int32).toInt = 0 by decide +kernel)
    have t1 := ne_toInt c1 (show ((1 : Int32) : Int32).toInt = 1 by decide +kernel)
    have t2 := ne_toInt c2 (show ((2 : Int32) : Int32).toInt = 2 by decide +kernel)
    have t3 := ne_toInt c3 (show ((3 : Int32) : Int32).toInt = 3 by decide +kernel)
    have t4 := ne_toInt c4 (show ((4 : Int32) : Int32).toInt = 4 by decide +kernel)
    have t5 := ne_toInt c5 (show ((5 : Int32) : Int32).toInt = 5 by decide +kernel)
    have t6 := ne_toInt c6 (show ((6 : Int32) : Int32).toInt = 6 by decide +kernel)
    have t7 := ne_toInt c7 (show ((7 : Int32) : Int32).toInt = 7 by decide +kernel)
    have t8 := ne_toInt c8 (show ((8 : Int32) : Int32).toInt = 8 by decide +kernel)
    have t9 := ne_toInt c9 (show ((9 : Int32) : Int32).toInt = 9 by decide +kernel)
    by_cases cr : (v1).toInt < 0 ∨ 9 < (v1).toInt
    · refine g_tabOut C 160 dX7_count_25 cr (by decide) ?_
      refine g_bipush C 162 (-9 : Int32) dX7_count_160 rfl rfl ?_
      exact g_iret (st := []) C E dX7_count_162 (by obtain rfl := Option.some.inj h; exact ⟨rfl, rfl⟩)
    · exfalso; omega
  unfold f_X7_count at h
  refine g_iload_n C 1 1 dX7_count_0 rfl rfl ?_
  refine g_bipush C 3 (11 : Int32) dX7_count_1 rfl rfl ?_
  refine g_icmp_lt C 24 6 dX7_count_3 (by decide) rfl (fun c => ?_) (fun c => ?_)
  · have h := ifT c h
    exact J_24 _ h
  · have h := ifF c h
    refine g_iload_n C 7 1 dX7_count_6 rfl rfl ?_
    refine g_bipush C 9 (16 : Int32) dX7_count_7 rfl rfl ?_
    refine g_icmp_gt C 24 12 dX7_count_9 (by decide) rfl (fun c => ?_) (fun c => ?_)
    · have h := ifT c h
      exact J_24 _ h
    · have h := ifF c h
      refine g_aload_n C 13 0 dX7_count_12 rfl rfl ?_
      refine g_get (v := .ref ((q 0) 9)) C 16 7 0 9 hin_7 rfl rfl (by decide) wf_X7_66 rfl dX7_count_13 rfl ?_
      refine g_iload_n C 17 1 dX7_count_16 rfl rfl ?_
      refine g_bipush C 19 (10 : Int32) dX7_count_17 rfl rfl ?_
      refine g_isub C 20 dX7_count_19 rfl ?_
      refine bnd h (fun x1 e1 h => ?_)
      refine g_callSr C 23 [] [.int x1] (ct_X7_at L ((q 0) 9) 7 ((Z 0).2 9) (v1 - (10 : Int32)) x1 e1) kX7_at kvX7_at wl_X7_100 [32] rfl rfl rfl rfl rfl (Nat.le_of_ble_eq_true rfl) ⟨Nat.le_of_ble_eq_true rfl, Nat.le_of_ble_eq_true rfl⟩ ⟨Nat.zero_le _, Nat.zero_le _⟩ dX7_count_20 rfl ?_
      exact g_iret (st := []) C E dX7_count_23 (by obtain rfl := Option.some.inj h; exact ⟨rfl, rfl⟩)
