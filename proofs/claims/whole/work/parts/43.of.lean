set_option maxHeartbeats 4000000 in
set_option maxRecDepth 100000 in
theorem ct_X1_allKnown (L : LL) (o : Nat) (u : Nat → Nat) (t : Nat) (q : Nat → Nat) (S : OS) (T : OS) (x : Int32) (h : f_X1_allKnown S T = some x) : Ct L yX1_allKnown cX1_allKnown 3 (some .int) (rmk 1 0 0 21) 0 0 [.ref o] (cells1 L o u t q S T) (Pv (some (.int x)) (cells1 L o u t q S T)) := by
  refine g_enter (lv := [(0, .ref o)]) kX1_allKnown rfl rfl (Nat.le_of_ble_eq_true rfl) (fun Γ C E hNL => ?_)
  have J_4 : ∀ (n : Nat)  (v1 : Int32) (v2 : Int32), Lp2 (b_X1_allKnown_4 S T  ) n v1 v2 = some x → G L Γ 0 0 (cells1 L o u t q S T) 4 [(0, .ref o), (1, .int v1), (2, .int v2)] [] := by
    intro n 
    refine lp_ok2 (fun v1 v2 => G L Γ 0 0 (cells1 L o u t q S T) 4 [(0, .ref o), (1, .int v1), (2, .int v2)] []) (fun k_4 hk_4 => ?_) n
    intro v1 v2 h
    unfold b_X1_allKnown_4 at h
    refine g_iload_n C 5 2 dX1_allKnown_4 rfl rfl ?_
    refine g_aload_n C 6 0 dX1_allKnown_5 rfl rfl ?_
    refine g_get (v := .ref t) C 9 1 0 0 hin_1 rfl rfl (by decide) wf_X1_9 rfl dX1_allKnown_6 rfl ?_
    refine g_get (v := .int (T.1 2)) C 12 6 2 2 hin_6 rfl rfl (by decide) wf_X1_19 rfl dX1_allKnown_9 rfl ?_
    refine g_icmp_ge C 38 15 dX1_allKnown_12 (by decide) rfl (fun c => ?_) (fun c => ?_)
    · have h := ifT c h
      refine g_iload_n C 39 1 dX1_allKnown_38 rfl rfl ?_
      exact g_iret (st := []) C E dX1_allKnown_39 (by obtain rfl := Option.some.inj h; exact ⟨rfl, rfl⟩)
    · have h := ifF c h
      refine g_iload_n C 16 1 dX1_allKnown_15 rfl rfl ?_
      refine g_aload_n C 17 0 dX1_allKnown_16 rfl rfl ?_
      refine g_get (v := .ref t) C 20 1 0 0 hin_1 rfl rfl (by decide) wf_X1_9 rfl dX1_allKnown_17 rfl ?_
      refine g_get (v := .ref (q 11)) C 23 6 2 11 hin_6 rfl rfl (by decide) wf_X1_25 rfl dX1_allKnown_20 rfl ?_
      refine g_iload_n C 24 2 dX1_allKnown_23 rfl rfl ?_
      refine bnd h (fun x1 e1 h => ?_)
      refine g_callNr C 27 [.int v1] [.int x1, .int v1] (ct_X7_at L (q 11) 5 (T.2 11) v2 x1 e1) kX7_at kvX7_at wn_X1_28 [8] rfl rfl rfl rfl rfl (Nat.le_of_ble_eq_true rfl) ⟨Nat.le_of_ble_eq_true rfl, Nat.le_of_ble_eq_true rfl⟩ ⟨Nat.zero_le _, Nat.zero_le _⟩ dX1_allKnown_24 rfl ?_
      refine bnd h (fun x2 e2 h => ?_)
      refine g_callSr C 30 [.int v1] [.int x2, .int v1] (ct_J6_bitCount_0f7a4 L x1 x2 e2) kJ6_bitCount_0f7a4 kvJ6_bitCount_0f7a4 wl_X1_32 [] rfl rfl rfl rfl rfl (Nat.le_of_ble_eq_true rfl) ⟨Nat.le_of_ble_eq_true rfl, Nat.le_of_ble_eq_true rfl⟩ ⟨Nat.zero_le _, Nat.zero_le _⟩ dX1_allKnown_27 rfl ?_
      refine g_iadd C 31 dX1_allKnown_30 rfl ?_
      refine g_istore_n C 32 1 [(1, .int (v1 + x2)), (0, .ref o), (2, .int v2)] dX1_allKnown_31 rfl rfl 3 hNL (by decide) rfl ?_
      refine g_iinc C 35 (1 : Int32) 2 [(2, .int (v2 + (1 : Int32))), (1, .int (v1 + x2)), (0, .ref o)] dX1_allKnown_32 rfl rfl 3 hNL (by decide) rfl rfl ?_
      refine g_goto C 4 dX1_allKnown_35 (by decide) ?_
      refine g_lv (lv' := [(0, .ref o), (1, .int (v1 + x2)), (2, .int (v2 + (1 : Int32)))]) [2, 1, 0] rfl ?_
      exact hk_4 _ _ h
  unfold f_X1_allKnown at h
  refine g_iconst C 1 (0 : Int32) dX1_allKnown_0 rfl rfl ?_
  refine g_istore_n C 2 1 [(1, .int (0 : Int32)), (0, .ref o)] dX1_allKnown_1 rfl rfl 3 hNL (by decide) rfl ?_
  refine g_iconst C 3 (0 : Int32) dX1_allKnown_2 rfl rfl ?_
  refine g_istore_n C 4 2 [(2, .int (0 : Int32)), (1, .int (0 : Int32)), (0, .ref o)] dX1_allKnown_3 rfl rfl 3 hNL (by decide) rfl ?_
  refine g_lv (lv' := [(0, .ref o), (1, .int (0 : Int32)), (2, .int (0 : Int32))]) [2, 1, 0] rfl ?_
  exact J_4 _ _ _ h
set_option maxHeartbeats 4000000 in
set_option maxRecDepth 100000 in
theorem ct_X1_mostWithNext (L : LL) (o : Nat) (u : Nat → Nat) (t : Nat) (q : Nat → Nat) (S : OS) (T : OS) (v1 : Int32) (v2 : Int32) (v3 : Int32) (v4 : Int32) (x : Int32) (h : f_X1_mostWithNext S T v1 v2 v3 v4 = some x) : Ct L yX1_mostWithNext cX1_mostWithNext 7 (some .int) (rmk 4 0 0 95) 0 0 [.ref o, .int v1, .int v2, .int v3, .int v4] (cells1 L o u t q S T) (Pv (some (.int x)) (cells1 L o u t q S T)) := by
  refine g_enter (lv := [(0, .ref o), (1, .int v1), (2, .int v2), (3, .int v3), (4, .int v4)]) kX1_mostWithNext rfl rfl (Nat.le_of_ble_eq_true rfl) (fun Γ C E hNL => ?_)
  have J_34 : ∀ (v1 : Int32) (v2 : Int32) (s0 : Int32), j_X1_mostWithNext_34 S T  v1 v2 s0 = some x → G L Γ 0 0 (cells1 L o u t q S T) 34 [(0, .ref o), (1, .int v1), (2, .int v2)] [.int s0] := by
    intro v1 v2 s0 h
    unfold j_X1_mostWithNext_34 at h
    refine g_istore C 36 6 [(6, .int s0), (0, .ref o), (1, .int v1), (2, .int v2)] dX1_mostWithNext_34 rfl 7 hNL (by decide) rfl ?_
    refine g_iload C 38 0 dX1_mostWithNext_36 rfl rfl ?_
    refine g_aload_n C 39 1 dX1_mostWithNext_38 rfl rfl ?_
    refine g_get (v := .ref (u 1)) C 42 1 0 1 hin_1 rfl rfl (by decide) wf_X1_15 rfl dX1_mostWithNext_39 rfl ?_
    refine g_iload_n C 43 2 dX1_mostWithNext_42 rfl rfl ?_
    refine g_iconst C 44 (1 : Int32) dX1_mostWithNext_43 rfl rfl ?_
    refine g_iload_n C 45 3 dX1_mostWithNext_44 rfl rfl ?_
    refine g_ishl C 46 dX1_mostWithNext_45 rfl ?_
    refine g_iconst C 47 (-1 : Int32) dX1_mostWithNext_46 rfl rfl ?_
    refine g_ixor C 48 dX1_mostWithNext_47 rfl ?_
    refine g_iand C 49 dX1_mostWithNext_48 rfl ?_
    refine bnd h (fun x2 e2 h => ?_)
    refine g_callNr C 52 [.int s0] [.int x2, .int s0] (ct_X7_at L (u 1) 32 (S.2 1) (v1 &&& (((1 : Int32) <<< (v2 &&& 31)) ^^^ (-1 : Int32))) x2 e2) kX7_at kvX7_at wn_X1_28 [1] rfl rfl rfl rfl rfl (Nat.le_of_ble_eq_true rfl) ⟨Nat.le_of_ble_eq_true rfl, Nat.le_of_ble_eq_true rfl⟩ ⟨Nat.zero_le _, Nat.zero_le _⟩ dX1_mostWithNext_49 rfl ?_
    refine g_iadd C 53 dX1_mostWithNext_52 rfl ?_
    exact g_iret (st := []) C E dX1_mostWithNext_53 (by obtain rfl := Option.some.inj h; exact ⟨rfl, rfl⟩)
  unfold f_X1_mostWithNext at h
  refine g_aload_n C 1 0 dX1_mostWithNext_0 rfl rfl ?_
  refine g_get (v := .ref t) C 4 1 0 0 hin_1 rfl rfl (by decide) wf_X1_9 rfl dX1_mostWithNext_1 rfl ?_
  refine g_get (v := .int (T.1 3)) C 7 6 2 3 hin_6 rfl rfl (by decide) wf_X1_64 rfl dX1_mostWithNext_4 rfl ?_
  refine g_iload C 9 4 dX1_mostWithNext_7 rfl rfl ?_
  refine g_iadd C 10 dX1_mostWithNext_9 rfl ?_
  refine g_bipush C 12 (24 : Int32) dX1_mostWithNext_10 rfl rfl ?_
  refine g_irem C 13 dX1_mostWithNext_12 rfl (by decide) ?_
  refine g_istore C 15 5 [(5, .int (remI ((T.1 3) + v4) (24 : Int32))), (0, .ref o), (1, .int v1), (2, .int v2), (3, .int v3), (4, .int v4)] dX1_mostWithNext_13 rfl 7 hNL (by decide) rfl ?_
  refine g_aload_n C 16 1 dX1_mostWithNext_15 rfl rfl ?_
  refine g_get (v := .ref t) C 19 1 0 0 hin_1 rfl rfl (by decide) wf_X1_9 rfl dX1_mostWithNext_16 rfl ?_
  refine g_iload_n C 20 3 dX1_mostWithNext_19 rfl rfl ?_
  refine g_iload_n C 21 4 dX1_mostWithNext_20 rfl rfl ?_
  refine g_iload C 23 0 dX1_mostWithNext_21 rfl rfl ?_
  refine bnd h (fun x1 e1 h => ?_)
  refine g_callVr C 26 [] [.int x1] (ct_X6_passes L t q T v2 v3 (remI ((T.1 3) + v4) (24 : Int32)) x1 e1) kX6_passes kvX6_passes wl_X1_67 6 0 rfl rfl rfl [2, 3, 4, 5, 6, 7, 8] rfl rfl rfl rfl rfl (Nat.le_of_ble_eq_true rfl) ⟨Nat.le_of_ble_eq_true rfl, Nat.le_of_ble_eq_true rfl⟩ ⟨Nat.zero_le _, Nat.zero_le _⟩ dX1_mostWithNext_23 rfl ?_
  refine g_if_eq C 33 29 dX1_mostWithNext_26 (by decide) rfl (fun c => ?_) (fun c => ?_)
  · have h := ifT c h
    refine g_iconst C 34 (0 : Int32) dX1_mostWithNext_33 rfl rfl ?_
    refine g_lv (lv' := [(0, .ref o), (1, .int v1), (2, .int v2)]) [1, 2, 3] rfl ?_
    exact J_34 _ _ _ h
  · have h := ifF c h
    refine g_iconst C 30 (1 : Int32) dX1_mostWithNext_29 rfl rfl ?_
    refine g_goto C 34 dX1_mostWithNext_30 (by decide) ?_
    refine g_lv (lv' := [(0, .ref o), (1, .int v1), (2, .int v2)]) [1, 2, 3] rfl ?_
    exact J_34 _ _ _ h
set_option maxHeartbeats 4000000 in
set_option maxRecDepth 100000 in
theorem ct_X1_findMostOfLast (L : LL) (o : Nat) (u : Nat → Nat) (t : Nat) (q : Nat → Nat) (S : OS) (T : OS) (v1 : Int32) (x : OS) (h : f_X1_findMostOfLast S T v1 = some x) : Ct L yX1_findMostOfLast cX1_findMostOfLast 6 none (rmk 5 0 0 121) 0 0 [.ref o, .int v1] (cells1 L o u t q S T) (Pv none (cells1 L o u t q x T)) := by
  refine g_enter (lv := [(0, .ref o), (1, .int v1)]) kX1_findMostOfLast rfl rfl (Nat.le_of_ble_eq_true rfl) (fun Γ C E hNL => ?_)
  have J_11 : ∀ (n : Nat) (v1 : Int32) (v2 : Int32) (S : OS), Lp2 (b_X1_findMostOfLast_11 T  v1) n v2 S = some x → G L Γ 0 0 (cells1 L o u t q S T) 11 [(0, .ref o), (1, .int v1), (2, .int v2)] [] := by
    intro n v1
    refine lp_ok2 (fun v2 S => G L Γ 0 0 (cells1 L o u t q S T) 11 [(0, .ref o), (1, .int v1), (2, .int v2)] []) (fun k_11 hk_11 => ?_) n
    have J_86 : ∀ (v2 : Int32) (v4 : Int32) (S : OS), j_X1_findMostOfLast_86 T k_11 v1 v2 v4 S = some x → G L Γ 0 0 (cells1 L o u t q S T) 86 [(0, .ref o), (1, .int v1), (2, .int v2), (4, .int v4)] [] := by
      intro v2 v4 S h
      unfold j_X1_findMostOfLast_86 at h
      refine g_aload_n C 87 0 dX1_findMostOfLast_86 rfl rfl ?_
      refine g_get (v := .ref (u 1)) C 90 1 0 1 hin_1 rfl rfl (by decide) wf_X1_15 rfl dX1_findMostOfLast_87 rfl ?_
      refine g_iload_n C 91 2 dX1_findMostOfLast_90 rfl rfl ?_
      refine g_iload C 93 3 dX1_findMostOfLast_91 rfl rfl ?_
      refine bnd h (fun x5 e5 h => ?_)
      refine g_callNw (w' := (cells1 L o u t q (sa S 1 x5) T)) C 96 [] [] (ct_X7_store L (u 1) 32 (S.2 1) v2 v4 x5 e5) kX7_store kvX7_store wn_X1_46 [1] rfl rfl rfl rfl rfl rfl rfl (Nat.le_of_ble_eq_true rfl) ⟨Nat.le_of_ble_eq_true rfl, Nat.le_of_ble_eq_true rfl⟩ ⟨Nat.zero_le _, Nat.zero_le _⟩ dX1_findMostOfLast_93 rfl ?_
      refine g_iinc C 99 (1 : Int32) 2 [(2, .int (v2 + (1 : Int32))), (0, .ref o), (1, .int v1), (4, .int v4)] dX1_findMostOfLast_96 rfl rfl 6 hNL (by decide) rfl rfl ?_
      refine g_goto C 11 dX1_findMostOfLast_99 (by decide) ?_
      refine g_lv (lv' := [(0, .ref o), (1, .int v1), (2, .int (v2 + (1 : Int32)))]) [1, 2, 0] rfl ?_
      exact hk_11 _ _ h
    have J_43 : ∀ (n : Nat) (v2 : Int32) (v3 : Int32) (S : OS) (v4 : Int32) (v5 : Int32), Lp2 (b_X1_findMostOfLast_43 T k_11 v1 v2 v3 S) n v4 v5 = some x → G L Γ 0 0 (cells1 L o u t q S T) 43 [(0, .ref o), (1, .int v1), (2, .int v2), (3, .int v3), (4, .int v4), (5, .int v5)] [] := by
      intro n v2 v3 S
      refine lp_ok2 (fun v4 v5 => G L Γ 0 0 (cells1 L o u t q S T) 43 [(0, .ref o), (1, .int v1), (2, .int v2), (3, .int v3), (4, .int v4), (5, .int v5)] []) (fun k_43 hk_43 => ?_) n
      have J_80 : ∀ (v4 : Int32) (v5 : Int32), j_X1_findMostOfLast_80 T k_11 k_43 v1 v2 v3 v4 v5 S = some x → G L Γ 0 0 (cells1 L o u t q S T) 80 [(0, .ref o), (1, .int v1), (2, .int v2), (3, .int v3), (4, .int v4), (5, .int v5)] [] := by
        intro v4 v5 h
        unfold j_X1_findMostOfLast_80 at h
        refine g_iinc C 83 (1 : Int32) 5 [(5, .int (v5 + (1 : Int32))), (0, .ref o), (1, .int v1), (2, .int v2), (3, .int v3), (4, .int v4)] dX1_findMostOfLast_80 rfl rfl 6 hNL (by decide) rfl rfl ?_
        refine g_goto C 43 dX1_findMostOfLast_83 (by decide) ?_
        refine g_lv (lv' := [(0, .ref o), (1, .int v1), (2, .int v2), (3, .int v3), (4, .int v4), (5, .int (v5 + (1 : Int32)))]) [1, 2, 3, 4, 5, 0] rfl ?_
        exact hk_43 _ _ h
      intro v4 v5 h
      unfold b_X1_findMostOfLast_43 at h
      refine g_iload C 45 5 dX1_findMostOfLast_43 rfl rfl ?_
      refine g_aload_n C 46 0 dX1_findMostOfLast_45 rfl rfl ?_
      refine g_get (v := .ref t) C 49 1 0 0 hin_1 rfl rfl (by decide) wf_X1_9 rfl dX1_findMostOfLast_46 rfl ?_
      refine g_get (v := .int (T.1 2)) C 52 6 2 2 hin_6 rfl rfl (by decide) wf_X1_19 rfl dX1_findMostOfLast_49 rfl ?_
      refine g_icmp_ge C 86 55 dX1_findMostOfLast_52 (by decide) rfl (fun c => ?_) (fun c => ?_)
      · have h := ifT c h
        refine g_lv (lv' := [(0, .ref o), (1, .int v1), (2, .int v2), (4, .int v4)]) [0, 1, 2, 4] rfl ?_
        exact J_86 _ _ _ h
      · have h := ifF c h
        refine g_iload_n C 56 2 dX1_findMostOfLast_55 rfl rfl ?_
        refine g_iload C 58 5 dX1_findMostOfLast_56 rfl rfl ?_
        refine bnd h (fun x3 e3 h => ?_)
        refine g_callNr C 61 [] [.int x3] (ct_X7_has L v2 v5 x3 e3) kX7_has kvX7_has wn_X1_50 [] rfl rfl rfl rfl rfl (Nat.le_of_ble_eq_true rfl) ⟨Nat.le_of_ble_eq_true rfl, Nat.le_of_ble_eq_true rfl⟩ ⟨Nat.zero_le _, Nat.zero_le _⟩ dX1_findMostOfLast_58 rfl ?_
        refine g_if_eq C 80 64 dX1_findMostOfLast_61 (by decide) rfl (fun c => ?_) (fun c => ?_)
        · have h := ifT c h
          exact J_80 _ _ h
        · have h := ifF c h
          refine g_iload C 66 4 dX1_findMostOfLast_64 rfl rfl ?_
          refine g_aload_n C 67 0 dX1_findMostOfLast_66 rfl rfl ?_
          refine g_iload_n C 68 2 dX1_findMostOfLast_67 rfl rfl ?_
          refine g_iload C 70 5 dX1_findMostOfLast_68 rfl rfl ?_
          refine g_iload_n C 71 1 dX1_findMostOfLast_70 rfl rfl ?_
          refine g_iload_n C 72 3 dX1_findMostOfLast_71 rfl rfl ?_
          refine bnd h (fun x4 e4 h => ?_)
          refine g_callVr C 75 [.int v4] [.int x4, .int v4] (ct_X1_mostWithNext L o u t q S T v2 v5 v1 v3 x4 e4) kX1_mostWithNext kvX1_mostWithNext wl_X1_54 1 0 rfl rfl rfl [0, 1, 2, 3, 4, 5, 6, 7, 8] rfl rfl rfl rfl rfl (Nat.le_of_ble_eq_true rfl) ⟨Nat.le_of_ble_eq_true rfl, Nat.le_of_ble_eq_true rfl⟩ ⟨Nat.zero_le _, Nat.zero_le _⟩ dX1_findMostOfLast_72 rfl ?_
          refine g_mmax C 78 wm_X1_58 hs_max hi_math hc_max ⟨Nat.le_of_ble_eq_true rfl, Nat.le_of_ble_eq_true rfl⟩ ⟨Nat.le_of_ble_eq_true rfl, Nat.le_of_ble_eq_true rfl⟩ dX1_findMostOfLast_75 rfl ?_
          refine g_istore C 80 4 [(4, .int (maxI v4 x4)), (0, .ref o), (1, .int v1), (2, .int v2), (3, .int v3), (5, .int v5)] dX1_findMostOfLast_78 rfl 6 hNL (by decide) rfl ?_
          refine g_lv (lv' := [(0, .ref o), (1, .int v1), (2, .int v2), (3, .int v3), (4, .int (maxI v4 x4)), (5, .int v5)]) [1, 2, 3, 4, 0, 5] rfl ?_
          exact J_80 _ _ h
    intro v2 S h
    unfold b_X1_findMostOfLast_11 at h
    refine g_iload_n C 12 2 dX1_findMostOfLast_11 rfl rfl ?_
    refine g_iconst C 13 (1 : Int32) dX1_findMostOfLast_12 rfl rfl ?_
    refine g_aload_n C 14 0 dX1_findMostOfLast_13 rfl rfl ?_
    refine g_get (v := .ref t) C 17 1 0 0 hin_1 rfl rfl (by decide) wf_X1_9 rfl dX1_findMostOfLast_14 rfl ?_
    refine g_get (v := .int (T.1 2)) C 20 6 2 2 hin_6 rfl rfl (by decide) wf_X1_19 rfl dX1_findMostOfLast_17 rfl ?_
    refine g_ishl C 21 dX1_findMostOfLast_20 rfl ?_
    refine g_icmp_ge C 102 24 dX1_findMostOfLast_21 (by decide) rfl (fun c => ?_) (fun c => ?_)
    · have h := ifT c h
      exact g_vret (st := []) C E dX1_findMostOfLast_102 (by obtain rfl := Option.some.inj h; exact ⟨rfl, rfl⟩)
    · have h := ifF c h
      refine g_aload_n C 25 0 dX1_findMostOfLast_24 rfl rfl ?_
      refine g_get (v := .ref t) C 28 1 0 0 hin_1 rfl rfl (by decide) wf_X1_9 rfl dX1_findMostOfLast_25 rfl ?_
      refine g_get (v := .int (T.1 2)) C 31 6 2 2 hin_6 rfl rfl (by decide) wf_X1_19 rfl dX1_findMostOfLast_28 rfl ?_
      refine g_iload_n C 32 2 dX1_findMostOfLast_31 rfl rfl ?_
      refine bnd h (fun x2 e2 h => ?_)
      refine g_callSr C 35 [.int (T.1 2)] [.int x2, .int (T.1 2)] (ct_J6_bitCount_0f7a4 L v2 x2 e2) kJ6_bitCount_0f7a4 kvJ6_bitCount_0f7a4 wl_X1_32 [] rfl rfl rfl rfl rfl (Nat.le_of_ble_eq_true rfl) ⟨Nat.le_of_ble_eq_true rfl, Nat.le_of_ble_eq_true rfl⟩ ⟨Nat.zero_le _, Nat.zero_le _⟩ dX1_findMostOfLast_32 rfl ?_
      refine g_isub C 36 dX1_findMostOfLast_35 rfl ?_
      refine g_istore_n C 37 3 [(3, .int ((T.1 2) - x2)), (0, .ref o), (1, .int v1), (2, .int v2)] dX1_findMostOfLast_36 rfl rfl 6 hNL (by decide) rfl ?_
      refine g_iconst C 38 (0 : Int32) dX1_findMostOfLast_37 rfl rfl ?_
      refine g_istore C 40 4 [(4, .int (0 : Int32)), (3, .int ((T.1 2) - x2)), (0, .ref o), (1, .int v1), (2, .int v2)] dX1_findMostOfLast_38 rfl 6 hNL (by decide) rfl ?_
      refine g_iconst C 41 (0 : Int32) dX1_findMostOfLast_40 rfl rfl ?_
      refine g_istore C 43 5 [(5, .int (0 : Int32)), (4, .int (0 : Int32)), (3, .int ((T.1 2) - x2)), (0, .ref o), (1, .int v1), (2, .int v2)] dX1_findMostOfLast_41 rfl 6 hNL (by decide) rfl ?_
      refine g_lv (lv' := [(0, .ref o), (1, .int v1), (2, .int v2), (3, .int ((T.1 2) - x2)), (4, .int (0 : Int32)), (5, .int (0 : Int32))]) [3, 4, 5, 2, 1, 0] rfl ?_
      exact J_43 _ _ _ _ _ _ h
  unfold f_X1_findMostOfLast at h
  refine g_aload_n C 1 0 dX1_findMostOfLast_0 rfl rfl ?_
  refine g_get (v := .ref (u 1)) C 4 1 0 1 hin_1 rfl rfl (by decide) wf_X1_15 rfl dX1_findMostOfLast_1 rfl ?_
  refine g_iconst C 5 (0 : Int32) dX1_findMostOfLast_4 rfl rfl ?_
  refine g_iconst C 6 (0 : Int32) dX1_findMostOfLast_5 rfl rfl ?_
  refine bnd h (fun x1 e1 h => ?_)
  refine g_callNw (w' := (cells1 L o u t q (sa S 1 x1) T)) C 9 [] [] (ct_X7_store L (u 1) 32 (S.2 1) (0 : Int32) (0 : Int32) x1 e1) kX7_store kvX7_store wn_X1_46 [1] rfl rfl rfl rfl rfl rfl rfl (Nat.le_of_ble_eq_true rfl) ⟨Nat.le_of_ble_eq_true rfl, Nat.le_of_ble_eq_true rfl⟩ ⟨Nat.zero_le _, Nat.zero_le _⟩ dX1_findMostOfLast_6 rfl ?_
  refine g_iconst C 10 (1 : Int32) dX1_findMostOfLast_9 rfl rfl ?_
  refine g_istore_n C 11 2 [(2, .int (1 : Int32)), (0, .ref o), (1, .int v1)] dX1_findMostOfLast_10 rfl rfl 6 hNL (by decide) rfl ?_
  refine g_lv (lv' := [(0, .ref o), (1, .int v1), (2, .int (1 : Int32))]) [1, 2, 0] rfl ?_
  exact J_11 _ _ _ _ h
set_option maxHeartbeats 4000000 in
set_option maxRecDepth 100000 in
theorem ct_X1_nextOf (L : LL) (o : Nat) (u : Nat → Nat) (t : Nat) (q : Nat → Nat) (S : OS) (T : OS) (v1 : Int32) (v2 : Int32) (v3 : Int32) (x : Int32) (h : f_X1_nextOf S T v1 v2 v3 = some x) : Ct L yX1_nextOf cX1_nextOf 5 (some .int) (rmk 5 0 0 121) 0 0 [.ref o, .int v1, .int v2, .int v3] (cells1 L o u t q S T) (Pv (some (.int x)) (cells1 L o u t q S T)) := by
  refine g_enter (lv := [(0, .ref o), (1, .int v1), (2, .int v2), (3, .int v3)]) kX1_nextOf rfl rfl (Nat.le_of_ble_eq_true rfl) (fun Γ C E hNL => ?_)
  have J_3 : ∀ (n : Nat) (v1 : Int32) (v2 : Int32) (v3 : Int32) (v4 : Int32), Lp1 (b_X1_nextOf_3 S T  v1 v2 v3) n v4 = some x → G L Γ 0 0 (cells1 L o u t q S T) 3 [(0, .ref o), (1, .int v1), (2, .int v2), (3, .int v3), (4, .int v4)] [] := by
    intro n v1 v2 v3
    refine lp_ok1 (fun v4 => G L Γ 0 0 (cells1 L o u t q S T) 3 [(0, .ref o), (1, .int v1), (2, .int v2), (3, .int v3), (4, .int v4)] []) (fun k_3 hk_3 => ?_) n
    have J_47 : ∀ (v4 : Int32), j_X1_nextOf_47 S T k_3 v1 v2 v3 v4 = some x → G L Γ 0 0 (cells1 L o u t q S T) 47 [(0, .ref o), (1, .int v1), (2, .int v2), (3, .int v3), (4, .int v4)] [] := by
      intro v4 h
      unfold j_X1_nextOf_47 at h
      refine g_iinc C 50 (1 : Int32) 4 [(4, .int (v4 + (1 : Int32))), (0, .ref o), (1, .int v1), (2, .int v2), (3, .int v3)] dX1_nextOf_47 rfl rfl 5 hNL (by decide) rfl rfl ?_
      refine g_goto C 3 dX1_nextOf_50 (by decide) ?_
      refine g_lv (lv' := [(0, .ref o), (1, .int v1), (2, .int v2), (3, .int v3), (4, .int (v4 + (1 : Int32)))]) [1, 2, 3, 4, 0] rfl ?_
      exact hk_3 _ h
    intro v4 h
    unfold b_X1_nextOf_3 at h
    refine g_iload C 5 4 dX1_nextOf_3 rfl rfl ?_
    refine g_aload_n C 6 0 dX1_nextOf_5 rfl rfl ?_
    refine g_get (v := .ref t) C 9 1 0 0 hin_1 rfl rfl (by decide) wf_X1_9 rfl dX1_nextOf_6 rfl ?_
    refine g_get (v := .int (T.1 2)) C 12 6 2 2 hin_6 rfl rfl (by decide) wf_X1_19 rfl dX1_nextOf_9 rfl ?_
    refine g_icmp_ge C 53 15 dX1_nextOf_12 (by decide) rfl (fun c => ?_) (fun c => ?_)
    · have h := ifT c h
      refine g_iconst C 54 (0 : Int32) dX1_nextOf_53 rfl rfl ?_
      exact g_iret (st := []) C E dX1_nextOf_54 (by obtain rfl := Option.some.inj h; exact ⟨rfl, rfl⟩)
    · have h := ifF c h
      refine g_iload_n C 16 1 dX1_nextOf_15 rfl rfl ?_
      refine g_iload C 18 4 dX1_nextOf_16 rfl rfl ?_
      refine bnd h (fun x1 e1 h => ?_)
      refine g_callNr C 21 [] [.int x1] (ct_X7_has L v1 v4 x1 e1) kX7_has kvX7_has wn_X1_50 [] rfl rfl rfl rfl rfl (Nat.le_of_ble_eq_true rfl) ⟨Nat.le_of_ble_eq_true rfl, Nat.le_of_ble_eq_true rfl⟩ ⟨Nat.zero_le _, Nat.zero_le _⟩ dX1_nextOf_18 rfl ?_
      refine g_if_eq C 47 24 dX1_nextOf_21 (by decide) rfl (fun c => ?_) (fun c => ?_)
      · have h := ifT c h
        exact J_47 _ h
      · have h := ifF c h
        refine g_aload_n C 25 0 dX1_nextOf_24 rfl rfl ?_
        refine g_iload_n C 26 1 dX1_nextOf_25 rfl rfl ?_
        refine g_iload C 28 4 dX1_nextOf_26 rfl rfl ?_
        refine g_iload_n C 29 2 dX1_nextOf_28 rfl rfl ?_
        refine g_iload_n C 30 3 dX1_nextOf_29 rfl rfl ?_
        refine bnd h (fun x2 e2 h => ?_)
        refine g_callVr C 33 [] [.int x2] (ct_X1_mostWithNext L o u t q S T v1 v4 v2 v3 x2 e2) kX1_mostWithNext kvX1_mostWithNext wl_X1_54 1 0 rfl rfl rfl [0, 1, 2, 3, 4, 5, 6, 7, 8] rfl rfl rfl rfl rfl (Nat.le_of_ble_eq_true rfl) ⟨Nat.le_of_ble_eq_true rfl, Nat.le_of_ble_eq_true rfl⟩ ⟨Nat.zero_le _, Nat.zero_le _⟩ dX1_nextOf_30 rfl ?_
        refine g_aload_n C 34 0 dX1_nextOf_33 rfl rfl ?_
        refine g_get (v := .ref (u 1)) C 37 1 0 1 hin_1 rfl rfl (by decide) wf_X1_15 rfl dX1_nextOf_34 rfl ?_
        refine g_iload_n C 38 1 dX1_nextOf_37 rfl rfl ?_
        refine bnd h (fun x3 e3 h => ?_)
        refine g_callNr C 41 [.int x2] [.int x3, .int x2] (ct_X7_at L (u 1) 32 (S.2 1) v1 x3 e3) kX7_at kvX7_at wn_X1_28 [1] rfl rfl rfl rfl rfl (Nat.le_of_ble_eq_true rfl) ⟨Nat.le_of_ble_eq_true rfl, Nat.le_of_ble_eq_true rfl⟩ ⟨Nat.zero_le _, Nat.zero_le _⟩ dX1_nextOf_38 rfl ?_
        refine g_icmp_ne C 47 44 dX1_nextOf_41 (by decide) rfl (fun c => ?_) (fun c => ?_)
        · have h := ifF c h
          exact J_47 _ h
        · have h := ifT c h
          refine g_iload C 46 4 dX1_nextOf_44 rfl rfl ?_
          exact g_iret (st := []) C E dX1_nextOf_46 (by obtain rfl := Option.some.inj h; exact ⟨rfl, rfl⟩)
  unfold f_X1_nextOf at h
  refine g_iconst C 1 (0 : Int32) dX1_nextOf_0 rfl rfl ?_
  refine g_istore C 3 4 [(4, .int (0 : Int32)), (0, .ref o), (1, .int v1), (2, .int v2), (3, .int v3)] dX1_nextOf_1 rfl 5 hNL (by decide) rfl ?_
  refine g_lv (lv' := [(0, .ref o), (1, .int v1), (2, .int v2), (3, .int v3), (4, .int (0 : Int32))]) [1, 2, 3, 4, 0] rfl ?_
  exact J_3 _ _ _ _ _ h
set_option maxHeartbeats 4000000 in
set_option maxRecDepth 100000 in
theorem ct_X1_queued (L : LL) (o : Nat) (u : Nat → Nat) (t : Nat) (q : Nat → Nat) (S : OS) (T : OS) (v1 : Int32) (v2 : Int32) (x : (Int32 × OS)) (h : f_X1_queued S T v1 v2 = some x) : Ct L yX1_queued cX1_queued 6 (some .int) (rmk 6 0 0 146) 0 0 [.ref o, .int v1, .int v2] (cells1 L o u t q S T) (Pv (some (.int x.1)) (cells1 L o u t q x.2 T)) := by
  refine g_enter (lv := [(0, .ref o), (1, .int v1), (2, .int v2)]) kX1_queued rfl rfl (Nat.le_of_ble_eq_true rfl) (fun Γ C E hNL => ?_)
  have J_33 : ∀ (n : Nat) (v1 : Int32) (v2 : Int32) (S : OS) (v3 : Int32) (v4 : Int32), Lp2 (b_X1_queued_33 T  v1 v2 S) n v3 v4 = some x → G L Γ 0 0 (cells1 L o u t q S T) 33 [(0, .ref o), (1, .int v1), (2, .int v2), (3, .int v3), (4, .int v4)] [] := by
    intro n v1 v2 S
    refine lp_ok2 (fun v3 v4 => G L Γ 0 0 (cells1 L o u t q S T) 33 [(0, .ref o), (1, .int v1), (2, .int v2), (3, .int v3), (4, .int v4)] []) (fun k_33 hk_33 => ?_) n
    intro v3 v4 h
    unfold b_X1_queued_33 at h
    refine g_iload C 35 4 dX1_queued_33 rfl rfl ?_
    refine g_aload_n C 36 0 dX1_queued_35 rfl rfl ?_
    refine g_get (v := .ref t) C 39 1 0 0 hin_1 rfl rfl (by decide) wf_X1_9 rfl dX1_queued_36 rfl ?_
    refine g_get (v := .int (T.1 2)) C 42 6 2 2 hin_6 rfl rfl (by decide) wf_X1_19 rfl dX1_queued_39 rfl ?_
    refine g_icmp_ge C 79 45 dX1_queued_42 (by decide) rfl (fun c => ?_) (fun c => ?_)
    · have h := ifT c h
      refine g_bipush C 81 (-9 : Int32) dX1_queued_79 rfl rfl ?_
      exact g_iret (st := []) C E dX1_queued_81 (by obtain rfl := Option.some.inj h; exact ⟨rfl, rfl⟩)
    · have h := ifF c h
      refine g_aload_n C 46 0 dX1_queued_45 rfl rfl ?_
      refine g_iload_n C 47 3 dX1_queued_46 rfl rfl ?_
      refine g_iload_n C 48 1 dX1_queued_47 rfl rfl ?_
      refine g_iload C 50 4 dX1_queued_48 rfl rfl ?_
      refine bnd h (fun x3 e3 h => ?_)
      refine g_callVr C 53 [] [.int x3] (ct_X1_nextOf L o u t q S T v3 v1 v4 x3 e3) kX1_nextOf kvX1_nextOf wl_X1_42 1 0 rfl rfl rfl [0, 1, 2, 3, 4, 5, 6, 7, 8] rfl rfl rfl rfl rfl (Nat.le_of_ble_eq_true rfl) ⟨Nat.le_of_ble_eq_true rfl, Nat.le_of_ble_eq_true rfl⟩ ⟨Nat.zero_le _, Nat.zero_le _⟩ dX1_queued_50 rfl ?_
      refine g_istore C 55 5 [(5, .int x3), (0, .ref o), (1, .int v1), (2, .int v2), (3, .int v3), (4, .int v4)] dX1_queued_53 rfl 6 hNL (by decide) rfl ?_
      refine g_iload C 57 5 dX1_queued_55 rfl rfl ?_
      refine g_iload_n C 58 3 dX1_queued_57 rfl rfl ?_
      refine g_icmp_ne C 64 61 dX1_queued_58 (by decide) rfl (fun c => ?_) (fun c => ?_)
      · have h := ifF c h
        refine g_iload_n C 65 4 dX1_queued_64 rfl rfl ?_
        refine g_iconst C 66 (1 : Int32) dX1_queued_65 rfl rfl ?_
        refine g_iload C 68 0 dX1_queued_66 rfl rfl ?_
        refine g_ishl C 69 dX1_queued_68 rfl ?_
        refine g_iconst C 70 (-1 : Int32) dX1_queued_69 rfl rfl ?_
        refine g_ixor C 71 dX1_queued_70 rfl ?_
        refine g_iand C 72 dX1_queued_71 rfl ?_
        refine g_istore_n C 73 3 [(3, .int (v3 &&& (((1 : Int32) <<< (x3 &&& 31)) ^^^ (-1 : Int32)))), (5, .int x3), (0, .ref o), (1, .int v1), (2, .int v2), (4, .int v4)] dX1_queued_72 rfl rfl 6 hNL (by decide) rfl ?_
        refine g_iinc C 76 (1 : Int32) 5 [(4, .int (v4 + (1 : Int32))), (3, .int (v3 &&& (((1 : Int32) <<< (x3 &&& 31)) ^^^ (-1 : Int32)))), (5, .int x3), (0, .ref o), (1, .int v1), (2, .int v2)] dX1_queued_73 rfl rfl 6 hNL (by decide) rfl rfl ?_
        refine g_goto C 33 dX1_queued_76 (by decide) ?_
        refine g_lv (lv' := [(0, .ref o), (1, .int v1), (2, .int v2), (3, .int (v3 &&& (((1 : Int32) <<< (x3 &&& 31)) ^^^ (-1 : Int32)))), (4, .int (v4 + (1 : Int32)))]) [3, 4, 5, 1, 0] rfl ?_
        exact hk_33 _ _ h
      · have h := ifT c h
        refine g_iload C 63 0 dX1_queued_61 rfl rfl ?_
        exact g_iret (st := []) C E dX1_queued_63 (by obtain rfl := Option.some.inj h; exact ⟨rfl, rfl⟩)
  unfold f_X1_queued at h
  refine g_aload_n C 1 0 dX1_queued_0 rfl rfl ?_
  refine g_iload_n C 2 1 dX1_queued_1 rfl rfl ?_
  refine bnd h (fun x1 e1 h => ?_)
  refine g_callVw (w' := (cells1 L o u t q x1 T)) C 5 [] [] (ct_X1_findMostOfLast L o u t q S T v1 x1 e1) kX1_findMostOfLast kvX1_findMostOfLast wl_X1_38 1 0 rfl rfl rfl [0, 1, 2, 3, 4, 5, 6, 7, 8] rfl rfl rfl rfl rfl rfl rfl (Nat.le_of_ble_eq_true rfl) ⟨Nat.le_of_ble_eq_true rfl, Nat.le_of_ble_eq_true rfl⟩ ⟨Nat.zero_le _, Nat.zero_le _⟩ dX1_queued_2 rfl ?_
  refine g_iconst C 6 (1 : Int32) dX1_queued_5 rfl rfl ?_
  refine g_aload_n C 7 0 dX1_queued_6 rfl rfl ?_
  refine g_get (v := .ref t) C 10 1 0 0 hin_1 rfl rfl (by decide) wf_X1_9 rfl dX1_queued_7 rfl ?_
  refine g_get (v := .int (T.1 2)) C 13 6 2 2 hin_6 rfl rfl (by decide) wf_X1_19 rfl dX1_queued_10 rfl ?_
  refine g_ishl C 14 dX1_queued_13 rfl ?_
  refine g_iconst C 15 (1 : Int32) dX1_queued_14 rfl rfl ?_
  refine g_isub C 16 dX1_queued_15 rfl ?_
  refine g_istore_n C 17 3 [(3, .int (((1 : Int32) <<< ((T.1 2) &&& 31)) - (1 : Int32))), (0, .ref o), (1, .int v1), (2, .int v2)] dX1_queued_16 rfl rfl 6 hNL (by decide) rfl ?_
  refine g_iload_n C 18 3 dX1_queued_17 rfl rfl ?_
  refine g_if_ge C 30 21 dX1_queued_18 (by decide) rfl (fun c => ?_) (fun c => ?_)
  · have h := ifT c h
    refine g_iconst C 31 (0 : Int32) dX1_queued_30 rfl rfl ?_
    refine g_istore C 33 4 [(4, .int (0 : Int32)), (3, .int (((1 : Int32) <<< ((T.1 2) &&& 31)) - (1 : Int32))), (0, .ref o), (1, .int v1), (2, .int v2)] dX1_queued_31 rfl 6 hNL (by decide) rfl ?_
    refine g_lv (lv' := [(0, .ref o), (1, .int v1), (2, .int v2), (3, .int (((1 : Int32) <<< ((T.1 2) &&& 31)) - (1 : Int32))), (4, .int (0 : Int32))]) [2, 3, 4, 1, 0] rfl ?_
    exact J_33 _ _ _ _ _ _ h
  · have h := ifF c h
    refine g_aload_n C 22 1 dX1_queued_21 rfl rfl ?_
    refine g_get (v := .ref (u 1)) C 25 1 0 1 hin_1 rfl rfl (by decide) wf_X1_15 rfl dX1_queued_22 rfl ?_
    refine g_iload_n C 26 0 dX1_queued_25 rfl rfl ?_
    refine bnd h (fun x2 e2 h => ?_)
    refine g_callNr C 29 [] [.int x2] (ct_X7_at L (u 1) 32 (x1.2 1) (((1 : Int32) <<< ((T.1 2) &&& 31)) - (1 : Int32)) x2 e2) kX7_at kvX7_at wn_X1_28 [1] rfl rfl rfl rfl rfl (Nat.le_of_ble_eq_true rfl) ⟨Nat.le_of_ble_eq_true rfl, Nat.le_of_ble_eq_true rfl⟩ ⟨Nat.zero_le _, Nat.zero_le _⟩ dX1_queued_26 rfl ?_
    exact g_iret (st := []) C E dX1_queued_29 (by obtain rfl := Option.some.inj h; exact ⟨rfl, rfl⟩)
set_option maxHeartbeats 4000000 in
set_option maxRecDepth 100000 in
theorem ct_X1_aheadOf (L : LL) (o : Nat) (u : Nat → Nat) (t : Nat) (q : Nat → Nat) (S : OS) (T : OS) (v1 : Int32) (v2 : Int32) (x : Int32) (h : f_X1_aheadOf S T v1 v2 = some x) : Ct L yX1_aheadOf cX1_aheadOf 7 (some .int) (rmk 4 0 0 94) 0 0 [.ref o, .int v1, .int v2] (cells1 L o u t q S T) (Pv (some (.int x)) (cells1 L o u t q S T)) := by
  refine g_enter (lv := [(0, .ref o), (1, .int v1), (2, .int v2)]) kX1_aheadOf rfl rfl (Nat.le_of_ble_eq_true rfl) (fun Γ C E hNL => ?_)
  have J_23 : ∀ (n : Nat) (v1 : Int32) (v2 : Int32) (v3 : Int32) (v4 : Int32) (v5 : Int32), Lp2 (b_X1_aheadOf_23 S T  v1 v2 v3) n v4 v5 = some x → G L Γ 0 0 (cells1 L o u t q S T) 23 [(0, .ref o), (1, .int v1), (2, .int v2), (3, .int v3), (4, .int v4), (5, .int v5)] [] := by
    intro n v1 v2 v3
    refine lp_ok2 (fun v4 v5 => G L Γ 0 0 (cells1 L o u t q S T) 23 [(0, .ref o), (1, .int v1), (2, .int v2), (3, .int v3), (4, .int v4), (5, .int v5)] []) (fun k_23 hk_23 => ?_) n
    have J_75 : ∀ (v4 : Int32) (v5 : Int32), j_X1_aheadOf_75 S T k_23 v1 v2 v3 v4 v5 = some x → G L Γ 0 0 (cells1 L o u t q S T) 75 [(0, .ref o), (1, .int v1), (2, .int v2), (3, .int v3), (4, .int v4), (5, .int v5)] [] := by
      intro v4 v5 h
      unfold j_X1_aheadOf_75 at h
      refine g_iinc C 78 (1 : Int32) 5 [(5, .int (v5 + (1 : Int32))), (0, .ref o), (1, .int v1), (2, .int v2), (3, .int v3), (4, .int v4)] dX1_aheadOf_75 rfl rfl 7 hNL (by decide) rfl rfl ?_
      refine g_goto C 23 dX1_aheadOf_78 (by decide) ?_
      refine g_lv (lv' := [(0, .ref o), (1, .int v1), (2, .int v2), (3, .int v3), (4, .int v4), (5, .int (v5 + (1 : Int32)))]) [1, 2, 3, 4, 5, 0] rfl ?_
      exact hk_23 _ _ h
    have J_72 : ∀ (v4 : Int32) (v5 : Int32), j_X1_aheadOf_72 S T k_23 v1 v2 v3 v4 v5 = some x → G L Γ 0 0 (cells1 L o u t q S T) 72 [(0, .ref o), (1, .int v1), (2, .int v2), (3, .int v3), (4, .int v4), (5, .int v5)] [] := by
      intro v4 v5 h
      unfold j_X1_aheadOf_72 at h
      refine g_iinc C 75 (1 : Int32) 4 [(4, .int (v4 + (1 : Int32))), (0, .ref o), (1, .int v1), (2, .int v2), (3, .int v3), (5, .int v5)] dX1_aheadOf_72 rfl rfl 7 hNL (by decide) rfl rfl ?_
      refine g_lv (lv' := [(0, .ref o), (1, .int v1), (2, .int v2), (3, .int v3), (4, .int (v4 + (1 : Int32))), (5, .int v5)]) [1, 2, 3, 4, 0, 5] rfl ?_
      exact J_75 _ _ h
    intro v4 v5 h
    unfold b_X1_aheadOf_23 at h
    refine g_iload C 25 5 dX1_aheadOf_23 rfl rfl ?_
    refine g_aload_n C 26 0 dX1_aheadOf_25 rfl rfl ?_
    refine g_get (v := .ref t) C 29 1 0 0 hin_1 rfl rfl (by decide) wf_X1_9 rfl dX1_aheadOf_26 rfl ?_
    refine g_get (v := .int (T.1 2)) C 32 6 2 2 hin_6 rfl rfl (by decide) wf_X1_19 rfl dX1_aheadOf_29 rfl ?_
    refine g_icmp_ge C 81 35 dX1_aheadOf_32 (by decide) rfl (fun c => ?_) (fun c => ?_)
    · have h := ifT c h
      refine g_iload C 83 4 dX1_aheadOf_81 rfl rfl ?_
      exact g_iret (st := []) C E dX1_aheadOf_83 (by obtain rfl := Option.some.inj h; exact ⟨rfl, rfl⟩)
    · have h := ifF c h
      refine g_aload_n C 36 0 dX1_aheadOf_35 rfl rfl ?_
      refine g_get (v := .ref t) C 39 1 0 0 hin_1 rfl rfl (by decide) wf_X1_9 rfl dX1_aheadOf_36 rfl ?_
      refine g_iload C 41 5 dX1_aheadOf_39 rfl rfl ?_
      refine g_iload_n C 42 2 dX1_aheadOf_41 rfl rfl ?_
      refine g_aload_n C 43 0 dX1_aheadOf_42 rfl rfl ?_
      refine g_get (v := .ref t) C 46 1 0 0 hin_1 rfl rfl (by decide) wf_X1_9 rfl dX1_aheadOf_43 rfl ?_
      refine g_get (v := .int (T.1 3)) C 49 6 2 3 hin_6 rfl rfl (by decide) wf_X1_64 rfl dX1_aheadOf_46 rfl ?_
      refine bnd h (fun x2 e2 h => ?_)
      refine g_callVr C 52 [] [.int x2] (ct_X6_faultsOn L t q T v5 v2 (T.1 3) x2 e2) kX6_faultsOn kvX6_faultsOn wl_X1_74 6 0 rfl rfl rfl [2, 3, 4, 5, 6, 7, 8] rfl rfl rfl rfl rfl (Nat.le_of_ble_eq_true rfl) ⟨Nat.le_of_ble_eq_true rfl, Nat.le_of_ble_eq_true rfl⟩ ⟨Nat.zero_le _, Nat.zero_le _⟩ dX1_aheadOf_49 rfl ?_
      refine g_istore C 54 6 [(6, .int x2), (0, .ref o), (1, .int v1), (2, .int v2), (3, .int v3), (4, .int v4), (5, .int v5)] dX1_aheadOf_52 rfl 7 hNL (by decide) rfl ?_
      refine g_iload C 56 0 dX1_aheadOf_54 rfl rfl ?_
      refine g_iload_n C 57 4 dX1_aheadOf_56 rfl rfl ?_
      refine g_icmp_lt C 72 60 dX1_aheadOf_57 (by decide) rfl (fun c => ?_) (fun c => ?_)
      · have h := ifT c h
        refine g_lv (lv' := [(0, .ref o), (1, .int v1), (2, .int v2), (3, .int v3), (4, .int v4), (5, .int v5)]) [1, 2, 3, 4, 5, 6] rfl ?_
        exact J_72 _ _ h
      · have h := ifF c h
        refine g_iload C 62 0 dX1_aheadOf_60 rfl rfl ?_
        refine g_iload_n C 63 4 dX1_aheadOf_62 rfl rfl ?_
        refine g_icmp_ne C 75 66 dX1_aheadOf_63 (by decide) rfl (fun c => ?_) (fun c => ?_)
        · have h := ifF c h
          refine g_lv (lv' := [(0, .ref o), (1, .int v1), (2, .int v2), (3, .int v3), (4, .int v4), (5, .int v5)]) [1, 2, 3, 4, 5, 6] rfl ?_
          exact J_75 _ _ h
        · have h := ifT c h
          refine g_iload C 68 6 dX1_aheadOf_66 rfl rfl ?_
          refine g_iload_n C 69 2 dX1_aheadOf_68 rfl rfl ?_
          refine g_icmp_ge C 75 72 dX1_aheadOf_69 (by decide) rfl (fun c => ?_) (fun c => ?_)
          · have h := ifT c h
            refine g_lv (lv' := [(0, .ref o), (1, .int v1), (2, .int v2), (3, .int v3), (4, .int v4), (5, .int v5)]) [1, 2, 3, 4, 5, 6] rfl ?_
            exact J_75 _ _ h
          · have h := ifF c h
            refine g_lv (lv' := [(0, .ref o), (1, .int v1), (2, .int v2), (3, .int v3), (4, .int v4), (5, .int v5)]) [1, 2, 3, 4, 5, 6] rfl ?_
            exact J_72 _ _ h
  unfold f_X1_aheadOf at h
  refine g_aload_n C 1 0 dX1_aheadOf_0 rfl rfl ?_
  refine g_get (v := .ref t) C 4 1 0 0 hin_1 rfl rfl (by decide) wf_X1_9 rfl dX1_aheadOf_1 rfl ?_
  refine g_iload_n C 5 1 dX1_aheadOf_4 rfl rfl ?_
  refine g_iload_n C 6 2 dX1_aheadOf_5 rfl rfl ?_
  refine g_aload_n C 7 0 dX1_aheadOf_6 rfl rfl ?_
  refine g_get (v := .ref t) C 10 1 0 0 hin_1 rfl rfl (by decide) wf_X1_9 rfl dX1_aheadOf_7 rfl ?_
  refine g_get (v := .int (T.1 3)) C 13 6 2 3 hin_6 rfl rfl (by decide) wf_X1_64 rfl dX1_aheadOf_10 rfl ?_
  refine bnd h (fun x1 e1 h => ?_)
  refine g_callVr C 16 [] [.int x1] (ct_X6_faultsOn L t q T v1 v2 (T.1 3) x1 e1) kX6_faultsOn kvX6_faultsOn wl_X1_74 6 0 rfl rfl rfl [2, 3, 4, 5, 6, 7, 8] rfl rfl rfl rfl rfl (Nat.le_of_ble_eq_true rfl) ⟨Nat.le_of_ble_eq_true rfl, Nat.le_of_ble_eq_true rfl⟩ ⟨Nat.zero_le _, Nat.zero_le _⟩ dX1_aheadOf_13 rfl ?_
  refine g_istore_n C 17 3 [(3, .int x1), (0, .ref o), (1, .int v1), (2, .int v2)] dX1_aheadOf_16 rfl rfl 7 hNL (by decide) rfl ?_
  refine g_iconst C 18 (0 : Int32) dX1_aheadOf_17 rfl rfl ?_
  refine g_istore C 20 4 [(4, .int (0 : Int32)), (3, .int x1), (0, .ref o), (1, .int v1), (2, .int v2)] dX1_aheadOf_18 rfl 7 hNL (by decide) rfl ?_
  refine g_iconst C 21 (0 : Int32) dX1_aheadOf_20 rfl rfl ?_
  refine g_istore C 23 5 [(5, .int (0 : Int32)), (4, .int (0 : Int32)), (3, .int x1), (0, .ref o), (1, .int v1), (2, .int v2)] dX1_aheadOf_21 rfl 7 hNL (by decide) rfl ?_
  refine g_lv (lv' := [(0, .ref o), (1, .int v1), (2, .int v2), (3, .int x1), (4, .int (0 : Int32)), (5, .int (0 : Int32))]) [3, 4, 5, 2, 1, 0] rfl ?_
  exact J_23 _ _ _ _ _ _ h
set_option maxHeartbeats 4000000 in
set_option maxRecDepth 100000 in
theorem ct_X1_ranked (L : LL) (o : Nat) (u : Nat → Nat) (t : Nat) (q : Nat → Nat) (S : OS) (T : OS) (v1 : Int32) (v2 : Int32) (x : Int32) (h : f_X1_ranked S T v1 v2 = some x) : Ct L yX1_ranked cX1_ranked 4 (some .int) (rmk 5 0 0 120) 0 0 [.ref o, .int v1, .int v2] (cells1 L o u t q S T) (Pv (some (.int x)) (cells1 L o u t q S T)) := by
  refine g_enter (lv := [(0, .ref o), (1, .int v1), (2, .int v2)]) kX1_ranked rfl rfl (Nat.le_of_ble_eq_true rfl) (fun Γ C E hNL => ?_)
  have J_2 : ∀ (n : Nat) (v1 : Int32) (v2 : Int32) (v3 : Int32), Lp1 (b_X1_ranked_2 S T  v1 v2) n v3 = some x → G L Γ 0 0 (cells1 L o u t q S T) 2 [(0, .ref o), (1, .int v1), (2, .int v2), (3, .int v3)] [] := by
    intro n v1 v2
    refine lp_ok1 (fun v3 => G L Γ 0 0 (cells1 L o u t q S T) 2 [(0, .ref o), (1, .int v1), (2, .int v2), (3, .int v3)] []) (fun k_2 hk_2 => ?_) n
    intro v3 h
    unfold b_X1_ranked_2 at h
    refine g_iload_n C 3 3 dX1_ranked_2 rfl rfl ?_
    refine g_aload_n C 4 0 dX1_ranked_3 rfl rfl ?_
    refine g_get (v := .ref t) C 7 1 0 0 hin_1 rfl rfl (by decide) wf_X1_9 rfl dX1_ranked_4 rfl ?_
    refine g_get (v := .int (T.1 2)) C 10 6 2 2 hin_6 rfl rfl (by decide) wf_X1_19 rfl dX1_ranked_7 rfl ?_
    refine g_icmp_ge C 31 13 dX1_ranked_10 (by decide) rfl (fun c => ?_) (fun c => ?_)
    · have h := ifT c h
      refine g_bipush C 33 (-9 : Int32) dX1_ranked_31 rfl rfl ?_
      exact g_iret (st := []) C E dX1_ranked_33 (by obtain rfl := Option.some.inj h; exact ⟨rfl, rfl⟩)
    · have h := ifF c h
      refine g_aload_n C 14 0 dX1_ranked_13 rfl rfl ?_
      refine g_iload_n C 15 3 dX1_ranked_14 rfl rfl ?_
      refine g_iload_n C 16 1 dX1_ranked_15 rfl rfl ?_
      refine bnd h (fun x1 e1 h => ?_)
      refine g_callVr C 19 [] [.int x1] (ct_X1_aheadOf L o u t q S T v3 v1 x1 e1) kX1_aheadOf kvX1_aheadOf wl_X1_71 1 0 rfl rfl rfl [0, 1, 2, 3, 4, 5, 6, 7, 8] rfl rfl rfl rfl rfl (Nat.le_of_ble_eq_true rfl) ⟨Nat.le_of_ble_eq_true rfl, Nat.le_of_ble_eq_true rfl⟩ ⟨Nat.zero_le _, Nat.zero_le _⟩ dX1_ranked_16 rfl ?_
      refine g_iload_n C 20 2 dX1_ranked_19 rfl rfl ?_
      refine g_icmp_ne C 25 23 dX1_ranked_20 (by decide) rfl (fun c => ?_) (fun c => ?_)
      · have h := ifF c h
        refine g_iinc C 28 (1 : Int32) 3 [(3, .int (v3 + (1 : Int32))), (0, .ref o), (1, .int v1), (2, .int v2)] dX1_ranked_25 rfl rfl 4 hNL (by decide) rfl rfl ?_
        refine g_goto C 2 dX1_ranked_28 (by decide) ?_
        refine g_lv (lv' := [(0, .ref o), (1, .int v1), (2, .int v2), (3, .int (v3 + (1 : Int32)))]) [1, 2, 3, 0] rfl ?_
        exact hk_2 _ h
      · have h := ifT c h
        refine g_iload_n C 24 3 dX1_ranked_23 rfl rfl ?_
        exact g_iret (st := []) C E dX1_ranked_24 (by obtain rfl := Option.some.inj h; exact ⟨rfl, rfl⟩)
  unfold f_X1_ranked at h
  refine g_iconst C 1 (0 : Int32) dX1_ranked_0 rfl rfl ?_
  refine g_istore_n C 2 3 [(3, .int (0 : Int32)), (0, .ref o), (1, .int v1), (2, .int v2)] dX1_ranked_1 rfl rfl 4 hNL (by decide) rfl ?_
  refine g_lv (lv' := [(0, .ref o), (1, .int v1), (2, .int v2), (3, .int (0 : Int32))]) [1, 2, 3, 0] rfl ?_
  exact J_2 _ _ _ _ h
set_option maxHeartbeats 4000000 in
set_option maxRecDepth 100000 in
theorem ct_X1_leastLimit (L : LL) (o : Nat) (u : Nat → Nat) (t : Nat) (q : Nat → Nat) (S : OS) (T : OS) (x : Int32) (h : f_X1_leastLimit S T = some x) : Ct L yX1_leastLimit cX1_leastLimit 6 (some .int) (rmk 3 0 0 72) 0 0 [.ref o] (cells1 L o u t q S T) (Pv (some (.int x)) (cells1 L o u t q S T)) := by
  refine g_enter (lv := [(0, .ref o)]) kX1_leastLimit rfl rfl (Nat.le_of_ble_eq_true rfl) (fun Γ C E hNL => ?_)
  have J_91 : ∀ (v1 : Int32), j_X1_leastLimit_91 S T  v1 = some x → G L Γ 0 0 (cells1 L o u t q S T) 91 [(1, .int v1)] [] := by
    intro v1 h
    unfold j_X1_leastLimit_91 at h
    refine g_iload_n C 92 0 dX1_leastLimit_91 rfl rfl ?_
    refine g_bipush C 94 (99 : Int32) dX1_leastLimit_92 rfl rfl ?_
    refine g_icmp_le C 102 97 dX1_leastLimit_94 (by decide) rfl (fun c => ?_) (fun c => ?_)
    · have h := ifT c h
      refine g_iload_n C 103 0 dX1_leastLimit_102 rfl rfl ?_
      exact g_iret (st := []) C E dX1_leastLimit_103 (by obtain rfl := Option.some.inj h; exact ⟨rfl, rfl⟩)
    · have h := ifF c h
      refine g_bipush C 99 (-9 : Int32) dX1_leastLimit_97 rfl rfl ?_
      refine g_goto C 103 dX1_leastLimit_99 (by decide) ?_
      exact g_iret (st := []) C E dX1_leastLimit_103 (by obtain rfl := Option.some.inj h; exact ⟨rfl, rfl⟩)
  have J_4 : ∀ (n : Nat)  (v1 : Int32) (v2 : Int32), Lp2 (b_X1_leastLimit_4 S T  ) n v1 v2 = some x → G L Γ 0 0 (cells1 L o u t q S T) 4 [(0, .ref o), (1, .int v1), (2, .int v2)] [] := by
    intro n 
    refine lp_ok2 (fun v1 v2 => G L Γ 0 0 (cells1 L o u t q S T) 4 [(0, .ref o), (1, .int v1), (2, .int v2)] []) (fun k_4 hk_4 => ?_) n
    have J_85 : ∀ (v1 : Int32) (v2 : Int32), j_X1_leastLimit_85 S T k_4 v1 v2 = some x → G L Γ 0 0 (cells1 L o u t q S T) 85 [(0, .ref o), (1, .int v1), (2, .int v2)] [] := by
      intro v1 v2 h
      unfold j_X1_leastLimit_85 at h
      refine g_iinc C 88 (1 : Int32) 2 [(2, .int (v2 + (1 : Int32))), (0, .ref o), (1, .int v1)] dX1_leastLimit_85 rfl rfl 6 hNL (by decide) rfl rfl ?_
      refine g_goto C 4 dX1_leastLimit_88 (by decide) ?_
      refine g_lv (lv' := [(0, .ref o), (1, .int v1), (2, .int (v2 + (1 : Int32)))]) [1, 2, 0] rfl ?_
      exact hk_4 _ _ h
    have J_43 : ∀ (n : Nat) (v2 : Int32) (v3 : Int32) (v4 : Int32) (v1 : Int32) (v5 : Int32), Lp2 (b_X1_leastLimit_43 S T k_4 v2 v3 v4) n v1 v5 = some x → G L Γ 0 0 (cells1 L o u t q S T) 43 [(0, .ref o), (1, .int v1), (2, .int v2), (3, .int v3), (4, .int v4), (5, .int v5)] [] := by
      intro n v2 v3 v4
      refine lp_ok2 (fun v1 v5 => G L Γ 0 0 (cells1 L o u t q S T) 43 [(0, .ref o), (1, .int v1), (2, .int v2), (3, .int v3), (4, .int v4), (5, .int v5)] []) (fun k_43 hk_43 => ?_) n
      intro v1 v5 h
      unfold b_X1_leastLimit_43 at h
      refine g_iload C 45 5 dX1_leastLimit_43 rfl rfl ?_
      refine g_aload_n C 46 0 dX1_leastLimit_45 rfl rfl ?_
      refine g_get (v := .ref t) C 49 1 0 0 hin_1 rfl rfl (by decide) wf_X1_9 rfl dX1_leastLimit_46 rfl ?_
      refine g_get (v := .int (T.1 1)) C 52 6 2 1 hin_6 rfl rfl (by decide) wf_X1_80 rfl dX1_leastLimit_49 rfl ?_
      refine g_icmp_ge C 85 55 dX1_leastLimit_52 (by decide) rfl (fun c => ?_) (fun c => ?_)
      · have h := ifT c h
        refine g_lv (lv' := [(0, .ref o), (1, .int v1), (2, .int v2)]) [0, 1, 2] rfl ?_
        exact J_85 _ _ h
      · have h := ifF c h
        refine g_iload_n C 56 1 dX1_leastLimit_55 rfl rfl ?_
        refine g_aload_n C 57 0 dX1_leastLimit_56 rfl rfl ?_
        refine g_get (v := .ref t) C 60 1 0 0 hin_1 rfl rfl (by decide) wf_X1_9 rfl dX1_leastLimit_57 rfl ?_
        refine g_iload C 62 5 dX1_leastLimit_60 rfl rfl ?_
        refine g_iload_n C 63 3 dX1_leastLimit_62 rfl rfl ?_
        refine g_iload C 65 4 dX1_leastLimit_63 rfl rfl ?_
        refine g_aload_n C 66 0 dX1_leastLimit_65 rfl rfl ?_
        refine g_get (v := .ref t) C 69 1 0 0 hin_1 rfl rfl (by decide) wf_X1_9 rfl dX1_leastLimit_66 rfl ?_
        refine g_get (v := .int (T.1 3)) C 72 6 2 3 hin_6 rfl rfl (by decide) wf_X1_64 rfl dX1_leastLimit_69 rfl ?_
        refine bnd h (fun x3 e3 h => ?_)
        refine g_callVr C 75 [.int v1] [.int x3, .int v1] (ct_X6_limitToPass L t q T v5 v3 v4 (T.1 3) x3 e3) kX6_limitToPass kvX6_limitToPass wl_X1_83 6 0 rfl rfl rfl [2, 3, 4, 5, 6, 7, 8] rfl rfl rfl rfl rfl (Nat.le_of_ble_eq_true rfl) ⟨Nat.le_of_ble_eq_true rfl, Nat.le_of_ble_eq_true rfl⟩ ⟨Nat.zero_le _, Nat.zero_le _⟩ dX1_leastLimit_72 rfl ?_
        refine g_mmax C 78 wm_X1_58 hs_max hi_math hc_max ⟨Nat.le_of_ble_eq_true rfl, Nat.le_of_ble_eq_true rfl⟩ ⟨Nat.le_of_ble_eq_true rfl, Nat.le_of_ble_eq_true rfl⟩ dX1_leastLimit_75 rfl ?_
        refine g_istore_n C 79 1 [(1, .int (maxI v1 x3)), (0, .ref o), (2, .int v2), (3, .int v3), (4, .int v4), (5, .int v5)] dX1_leastLimit_78 rfl rfl 6 hNL (by decide) rfl ?_
        refine g_iinc C 82 (1 : Int32) 5 [(5, .int (v5 + (1 : Int32))), (1, .int (maxI v1 x3)), (0, .ref o), (2, .int v2), (3, .int v3), (4, .int v4)] dX1_leastLimit_79 rfl rfl 6 hNL (by decide) rfl rfl ?_
        refine g_goto C 43 dX1_leastLimit_82 (by decide) ?_
        refine g_lv (lv' := [(0, .ref o), (1, .int (maxI v1 x3)), (2, .int v2), (3, .int v3), (4, .int v4), (5, .int (v5 + (1 : Int32)))]) [2, 1, 3, 4, 5, 0] rfl ?_
        exact hk_43 _ _ h
    intro v1 v2 h
    unfold b_X1_leastLimit_4 at h
    refine g_iload_n C 5 2 dX1_leastLimit_4 rfl rfl ?_
    refine g_aload_n C 6 0 dX1_leastLimit_5 rfl rfl ?_
    refine g_get (v := .ref t) C 9 1 0 0 hin_1 rfl rfl (by decide) wf_X1_9 rfl dX1_leastLimit_6 rfl ?_
    refine g_get (v := .int (T.1 2)) C 12 6 2 2 hin_6 rfl rfl (by decide) wf_X1_19 rfl dX1_leastLimit_9 rfl ?_
    refine g_icmp_ge C 91 15 dX1_leastLimit_12 (by decide) rfl (fun c => ?_) (fun c => ?_)
    · have h := ifT c h
      refine g_lv (lv' := [(1, .int v1)]) [1] rfl ?_
      exact J_91 _ h
    · have h := ifF c h
      refine g_aload_n C 16 0 dX1_leastLimit_15 rfl rfl ?_
      refine g_get (v := .ref t) C 19 1 0 0 hin_1 rfl rfl (by decide) wf_X1_9 rfl dX1_leastLimit_16 rfl ?_
      refine g_get (v := .ref (q 10)) C 22 6 2 10 hin_6 rfl rfl (by decide) wf_X1_77 rfl dX1_leastLimit_19 rfl ?_
      refine g_iload_n C 23 2 dX1_leastLimit_22 rfl rfl ?_
      refine bnd h (fun x1 e1 h => ?_)
      refine g_callNr C 26 [] [.int x1] (ct_X7_at L (q 10) 5 (T.2 10) v2 x1 e1) kX7_at kvX7_at wn_X1_28 [7] rfl rfl rfl rfl rfl (Nat.le_of_ble_eq_true rfl) ⟨Nat.le_of_ble_eq_true rfl, Nat.le_of_ble_eq_true rfl⟩ ⟨Nat.zero_le _, Nat.zero_le _⟩ dX1_leastLimit_23 rfl ?_
      refine g_istore_n C 27 3 [(3, .int x1), (0, .ref o), (1, .int v1), (2, .int v2)] dX1_leastLimit_26 rfl rfl 6 hNL (by decide) rfl ?_
      refine g_aload_n C 28 1 dX1_leastLimit_27 rfl rfl ?_
      refine g_get (v := .ref t) C 31 1 0 0 hin_1 rfl rfl (by decide) wf_X1_9 rfl dX1_leastLimit_28 rfl ?_
      refine g_get (v := .ref (q 11)) C 34 6 2 11 hin_6 rfl rfl (by decide) wf_X1_25 rfl dX1_leastLimit_31 rfl ?_
      refine g_iload_n C 35 3 dX1_leastLimit_34 rfl rfl ?_
      refine bnd h (fun x2 e2 h => ?_)
      refine g_callNr C 38 [] [.int x2] (ct_X7_at L (q 11) 5 (T.2 11) v2 x2 e2) kX7_at kvX7_at wn_X1_28 [8] rfl rfl rfl rfl rfl (Nat.le_of_ble_eq_true rfl) ⟨Nat.le_of_ble_eq_true rfl, Nat.le_of_ble_eq_true rfl⟩ ⟨Nat.zero_le _, Nat.zero_le _⟩ dX1_leastLimit_35 rfl ?_
      refine g_istore C 40 4 [(4, .int x2), (3, .int x1), (0, .ref o), (1, .int v1), (2, .int v2)] dX1_leastLimit_38 rfl 6 hNL (by decide) rfl ?_
      refine g_iconst C 41 (0 : Int32) dX1_leastLimit_40 rfl rfl ?_
      refine g_istore C 43 5 [(5, .int (0 : Int32)), (4, .int x2), (3, .int x1), (0, .ref o), (1, .int v1), (2, .int v2)] dX1_leastLimit_41 rfl 6 hNL (by decide) rfl ?_
      refine g_lv (lv' := [(0, .ref o), (1, .int v1), (2, .int v2), (3, .int x1), (4, .int x2), (5, .int (0 : Int32))]) [3, 4, 5, 2, 1, 0] rfl ?_
      exact J_43 _ _ _ _ _ _ h
  unfold f_X1_leastLimit at h
  refine g_iconst C 1 (0 : Int32) dX1_leastLimit_0 rfl rfl ?_
  refine g_istore_n C 2 1 [(1, .int (0 : Int32)), (0, .ref o)] dX1_leastLimit_1 rfl rfl 6 hNL (by decide) rfl ?_
  refine g_iconst C 3 (0 : Int32) dX1_leastLimit_2 rfl rfl ?_
  refine g_istore_n C 4 2 [(2, .int (0 : Int32)), (1, .int (0 : Int32)), (0, .ref o)] dX1_leastLimit_3 rfl rfl 6 hNL (by decide) rfl ?_
  refine g_lv (lv' := [(0, .ref o), (1, .int (0 : Int32)), (2, .int (0 : Int32))]) [2, 1, 0] rfl ?_
  exact J_4 _ _ _ h
set_option maxHeartbeats 4000000 in
set_option maxRecDepth 100000 in
theorem ct_X1_passersAt (L : LL) (o : Nat) (u : Nat → Nat) (t : Nat) (q : Nat → Nat) (S : OS) (T : OS) (v1 : Int32) (v2 : Int32) (x : Int32) (h : f_X1_passersAt S T v1 v2 = some x) : Ct L yX1_passersAt cX1_passersAt 5 (some .int) (rmk 4 0 0 95) 0 0 [.ref o, .int v1, .int v2] (cells1 L o u t q S T) (Pv (some (.int x)) (cells1 L o u t q S T)) := by
  refine g_enter (lv := [(0, .ref o), (1, .int v1), (2, .int v2)]) kX1_passersAt rfl rfl (Nat.le_of_ble_eq_true rfl) (fun Γ C E hNL => ?_)
  have J_5 : ∀ (n : Nat) (v1 : Int32) (v2 : Int32) (v3 : Int32) (v4 : Int32), Lp2 (b_X1_passersAt_5 S T  v1 v2) n v3 v4 = some x → G L Γ 0 0 (cells1 L o u t q S T) 5 [(0, .ref o), (1, .int v1), (2, .int v2), (3, .int v3), (4, .int v4)] [] := by
    intro n v1 v2
    refine lp_ok2 (fun v3 v4 => G L Γ 0 0 (cells1 L o u t q S T) 5 [(0, .ref o), (1, .int v1), (2, .int v2), (3, .int v3), (4, .int v4)] []) (fun k_5 hk_5 => ?_) n
    have J_34 : ∀ (v3 : Int32) (v4 : Int32), j_X1_passersAt_34 S T k_5 v1 v2 v3 v4 = some x → G L Γ 0 0 (cells1 L o u t q S T) 34 [(0, .ref o), (1, .int v1), (2, .int v2), (3, .int v3), (4, .int v4)] [] := by
      intro v3 v4 h
      unfold j_X1_passersAt_34 at h
      refine g_iinc C 37 (1 : Int32) 4 [(4, .int (v4 + (1 : Int32))), (0, .ref o), (1, .int v1), (2, .int v2), (3, .int v3)] dX1_passersAt_34 rfl rfl 5 hNL (by decide) rfl rfl ?_
      refine g_goto C 5 dX1_passersAt_37 (by decide) ?_
      refine g_lv (lv' := [(0, .ref o), (1, .int v1), (2, .int v2), (3, .int v3), (4, .int (v4 + (1 : Int32)))]) [1, 2, 3, 4, 0] rfl ?_
      exact hk_5 _ _ h
    intro v3 v4 h
    unfold b_X1_passersAt_5 at h
    refine g_iload C 7 4 dX1_passersAt_5 rfl rfl ?_
    refine g_aload_n C 8 0 dX1_passersAt_7 rfl rfl ?_
    refine g_get (v := .ref t) C 11 1 0 0 hin_1 rfl rfl (by decide) wf_X1_9 rfl dX1_passersAt_8 rfl ?_
    refine g_get (v := .int (T.1 2)) C 14 6 2 2 hin_6 rfl rfl (by decide) wf_X1_19 rfl dX1_passersAt_11 rfl ?_
    refine g_icmp_ge C 40 17 dX1_passersAt_14 (by decide) rfl (fun c => ?_) (fun c => ?_)
    · have h := ifT c h
      refine g_iload_n C 41 3 dX1_passersAt_40 rfl rfl ?_
      exact g_iret (st := []) C E dX1_passersAt_41 (by obtain rfl := Option.some.inj h; exact ⟨rfl, rfl⟩)
    · have h := ifF c h
      refine g_aload_n C 18 0 dX1_passersAt_17 rfl rfl ?_
      refine g_get (v := .ref t) C 21 1 0 0 hin_1 rfl rfl (by decide) wf_X1_9 rfl dX1_passersAt_18 rfl ?_
      refine g_iload C 23 4 dX1_passersAt_21 rfl rfl ?_
      refine g_iload_n C 24 1 dX1_passersAt_23 rfl rfl ?_
      refine g_iload_n C 25 2 dX1_passersAt_24 rfl rfl ?_
      refine bnd h (fun x1 e1 h => ?_)
      refine g_callVr C 28 [] [.int x1] (ct_X6_passes L t q T v4 v1 v2 x1 e1) kX6_passes kvX6_passes wl_X1_67 6 0 rfl rfl rfl [2, 3, 4, 5, 6, 7, 8] rfl rfl rfl rfl rfl (Nat.le_of_ble_eq_true rfl) ⟨Nat.le_of_ble_eq_true rfl, Nat.le_of_ble_eq_true rfl⟩ ⟨Nat.zero_le _, Nat.zero_le _⟩ dX1_passersAt_25 rfl ?_
      refine g_if_eq C 34 31 dX1_passersAt_28 (by decide) rfl (fun c => ?_) (fun c => ?_)
      · have h := ifT c h
        exact J_34 _ _ h
      · have h := ifF c h
        refine g_iinc C 34 (1 : Int32) 3 [(3, .int (v3 + (1 : Int32))), (0, .ref o), (1, .int v1), (2, .int v2), (4, .int v4)] dX1_passersAt_31 rfl rfl 5 hNL (by decide) rfl rfl ?_
        refine g_lv (lv' := [(0, .ref o), (1, .int v1), (2, .int v2), (3, .int (v3 + (1 : Int32))), (4, .int v4)]) [1, 2, 3, 0, 4] rfl ?_
        exact J_34 _ _ h
  unfold f_X1_passersAt at h
  refine g_iconst C 1 (0 : Int32) dX1_passersAt_0 rfl rfl ?_
  refine g_istore_n C 2 3 [(3, .int (0 : Int32)), (0, .ref o), (1, .int v1), (2, .int v2)] dX1_passersAt_1 rfl rfl 5 hNL (by decide) rfl ?_
  refine g_iconst C 3 (0 : Int32) dX1_passersAt_2 rfl rfl ?_
  refine g_istore C 5 4 [(4, .int (0 : Int32)), (3, .int (0 : Int32)), (0, .ref o), (1, .int v1), (2, .int v2)] dX1_passersAt_3 rfl 5 hNL (by decide) rfl ?_
  refine g_lv (lv' := [(0, .ref o), (1, .int v1), (2, .int v2), (3, .int (0 : Int32)), (4, .int (0 : Int32))]) [2, 3, 4, 1, 0] rfl ?_
  exact J_5 _ _ _ _ _ h
set_option maxHeartbeats 4000000 in
set_option maxRecDepth 100000 in
theorem ct_X1_hourOfMost (L : LL) (o : Nat) (u : Nat → Nat) (t : Nat) (q : Nat → Nat) (S : OS) (T : OS) (v1 : Int32) (x : Int32) (h : f_X1_hourOfMost S T v1 = some x) : Ct L yX1_hourOfMost cX1_hourOfMost 6 (some .int) (rmk 5 0 0 119) 0 0 [.ref o, .int v1] (cells1 L o u t q S T) (Pv (some (.int x)) (cells1 L o u t q S T)) := by
  refine g_enter (lv := [(0, .ref o), (1, .int v1)]) kX1_hourOfMost rfl rfl (Nat.le_of_ble_eq_true rfl) (fun Γ C E hNL => ?_)
  have J_7 : ∀ (n : Nat) (v1 : Int32) (v2 : Int32) (v3 : Int32) (v4 : Int32), Lp3 (b_X1_hourOfMost_7 S T  v1) n v2 v3 v4 = some x → G L Γ 0 0 (cells1 L o u t q S T) 7 [(0, .ref o), (1, .int v1), (2, .int v2), (3, .int v3), (4, .int v4)] [] := by
    intro n v1
    refine lp_ok3 (fun v2 v3 v4 => G L Γ 0 0 (cells1 L o u t q S T) 7 [(0, .ref o), (1, .int v1), (2, .int v2), (3, .int v3), (4, .int v4)] []) (fun k_7 hk_7 => ?_) n
    have J_35 : ∀ (v2 : Int32) (v3 : Int32) (v4 : Int32), j_X1_hourOfMost_35 S T k_7 v1 v2 v3 v4 = some x → G L Γ 0 0 (cells1 L o u t q S T) 35 [(0, .ref o), (1, .int v1), (2, .int v2), (3, .int v3), (4, .int v4)] [] := by
      intro v2 v3 v4 h
      unfold j_X1_hourOfMost_35 at h
      refine g_iinc C 38 (1 : Int32) 4 [(4, .int (v4 + (1 : Int32))), (0, .ref o), (1, .int v1), (2, .int v2), (3, .int v3)] dX1_hourOfMost_35 rfl rfl 6 hNL (by decide) rfl rfl ?_
      refine g_goto C 7 dX1_hourOfMost_38 (by decide) ?_
      refine g_lv (lv' := [(0, .ref o), (1, .int v1), (2, .int v2), (3, .int v3), (4, .int (v4 + (1 : Int32)))]) [1, 2, 3, 4, 0] rfl ?_
      exact hk_7 _ _ _ h
    intro v2 v3 v4 h
    unfold b_X1_hourOfMost_7 at h
    refine g_iload C 9 4 dX1_hourOfMost_7 rfl rfl ?_
    refine g_bipush C 11 (24 : Int32) dX1_hourOfMost_9 rfl rfl ?_
    refine g_icmp_ge C 41 14 dX1_hourOfMost_11 (by decide) rfl (fun c => ?_) (fun c => ?_)
    · have h := ifT c h
      refine g_iload_n C 42 3 dX1_hourOfMost_41 rfl rfl ?_
      exact g_iret (st := []) C E dX1_hourOfMost_42 (by obtain rfl := Option.some.inj h; exact ⟨rfl, rfl⟩)
    · have h := ifF c h
      refine g_aload_n C 15 0 dX1_hourOfMost_14 rfl rfl ?_
      refine g_iload_n C 16 1 dX1_hourOfMost_15 rfl rfl ?_
      refine g_iload C 18 4 dX1_hourOfMost_16 rfl rfl ?_
      refine bnd h (fun x1 e1 h => ?_)
      refine g_callVr C 21 [] [.int x1] (ct_X1_passersAt L o u t q S T v1 v4 x1 e1) kX1_passersAt kvX1_passersAt wl_X1_86 1 0 rfl rfl rfl [0, 1, 2, 3, 4, 5, 6, 7, 8] rfl rfl rfl rfl rfl (Nat.le_of_ble_eq_true rfl) ⟨Nat.le_of_ble_eq_true rfl, Nat.le_of_ble_eq_true rfl⟩ ⟨Nat.zero_le _, Nat.zero_le _⟩ dX1_hourOfMost_18 rfl ?_
      refine g_istore C 23 5 [(5, .int x1), (0, .ref o), (1, .int v1), (2, .int v2), (3, .int v3), (4, .int v4)] dX1_hourOfMost_21 rfl 6 hNL (by decide) rfl ?_
      refine g_iload C 25 0 dX1_hourOfMost_23 rfl rfl ?_
      refine g_iload_n C 26 3 dX1_hourOfMost_25 rfl rfl ?_
      refine g_icmp_le C 35 29 dX1_hourOfMost_26 (by decide) rfl (fun c => ?_) (fun c => ?_)
      · have h := ifT c h
        refine g_lv (lv' := [(0, .ref o), (1, .int v1), (2, .int v2), (3, .int v3), (4, .int v4)]) [1, 2, 3, 4, 5] rfl ?_
        exact J_35 _ _ _ h
      · have h := ifF c h
        refine g_iload C 31 0 dX1_hourOfMost_29 rfl rfl ?_
        refine g_istore_n C 32 2 [(2, .int x1), (5, .int x1), (0, .ref o), (1, .int v1), (3, .int v3), (4, .int v4)] dX1_hourOfMost_31 rfl rfl 6 hNL (by decide) rfl ?_
        refine g_iload C 34 5 dX1_hourOfMost_32 rfl rfl ?_
        refine g_istore_n C 35 3 [(3, .int v4), (2, .int x1), (5, .int x1), (0, .ref o), (1, .int v1), (4, .int v4)] dX1_hourOfMost_34 rfl rfl 6 hNL (by decide) rfl ?_
        refine g_lv (lv' := [(0, .ref o), (1, .int v1), (2, .int x1), (3, .int v4), (4, .int v4)]) [3, 4, 1, 0, 5] rfl ?_
        exact J_35 _ _ _ h
  unfold f_X1_hourOfMost at h
  refine g_iconst C 1 (-1 : Int32) dX1_hourOfMost_0 rfl rfl ?_
  refine g_istore_n C 2 2 [(2, .int (-1 : Int32)), (0, .ref o), (1, .int v1)] dX1_hourOfMost_1 rfl rfl 6 hNL (by decide) rfl ?_
  refine g_iconst C 3 (0 : Int32) dX1_hourOfMost_2 rfl rfl ?_
  refine g_istore_n C 4 3 [(3, .int (0 : Int32)), (2, .int (-1 : Int32)), (0, .ref o), (1, .int v1)] dX1_hourOfMost_3 rfl rfl 6 hNL (by decide) rfl ?_
  refine g_iconst C 5 (0 : Int32) dX1_hourOfMost_4 rfl rfl ?_
  refine g_istore C 7 4 [(4, .int (0 : Int32)), (3, .int (0 : Int32)), (2, .int (-1 : Int32)), (0, .ref o), (1, .int v1)] dX1_hourOfMost_5 rfl 6 hNL (by decide) rfl ?_
  refine g_lv (lv' := [(0, .ref o), (1, .int v1), (2, .int (-1 : Int32)), (3, .int (0 : Int32)), (4, .int (0 : Int32))]) [3, 4, 2, 1, 0] rfl ?_
  exact J_7 _ _ _ _ _ h
set_option maxHeartbeats 4000000 in
set_option maxRecDepth 100000 in
theorem ct_X1_waysOf (L : LL) (o : Nat) (u : Nat → Nat) (t : Nat) (q : Nat → Nat) (S : OS) (T : OS) (v1 : Int32) (x : Int32) (h : f_X1_waysOf S T v1 = some x) : Ct L yX1_waysOf cX1_waysOf 2 (some .int) (rmk 4 0 0 97) 0 0 [.ref o, .int v1] (cells1 L o u t q S T) (Pv (some (.int x)) (cells1 L o u t q S T)) := by
  refine g_enter (lv := [(0, .ref o), (1, .int v1)]) kX1_waysOf rfl rfl (Nat.le_of_ble_eq_true rfl) (fun Γ C E hNL => ?_)
  unfold f_X1_waysOf at h
  refine g_aload_n C 1 0 dX1_waysOf_0 rfl rfl ?_
  refine g_get (v := .ref t) C 4 1 0 0 hin_1 rfl rfl (by decide) wf_X1_9 rfl dX1_waysOf_1 rfl ?_
  refine g_aload_n C 5 0 dX1_waysOf_4 rfl rfl ?_
  refine g_get (v := .ref t) C 8 1 0 0 hin_1 rfl rfl (by decide) wf_X1_9 rfl dX1_waysOf_5 rfl ?_
  refine g_get (v := .ref (q 10)) C 11 6 2 10 hin_6 rfl rfl (by decide) wf_X1_77 rfl dX1_waysOf_8 rfl ?_
  refine g_iload_n C 12 1 dX1_waysOf_11 rfl rfl ?_
  refine bnd h (fun x1 e1 h => ?_)
  refine g_callNr C 15 [.ref t] [.int x1, .ref t] (ct_X7_at L (q 10) 5 (T.2 10) v1 x1 e1) kX7_at kvX7_at wn_X1_28 [7] rfl rfl rfl rfl rfl (Nat.le_of_ble_eq_true rfl) ⟨Nat.le_of_ble_eq_true rfl, Nat.le_of_ble_eq_true rfl⟩ ⟨Nat.zero_le _, Nat.zero_le _⟩ dX1_waysOf_12 rfl ?_
  refine g_aload_n C 16 0 dX1_waysOf_15 rfl rfl ?_
  refine g_get (v := .ref t) C 19 1 0 0 hin_1 rfl rfl (by decide) wf_X1_9 rfl dX1_waysOf_16 rfl ?_
  refine g_get (v := .ref (q 11)) C 22 6 2 11 hin_6 rfl rfl (by decide) wf_X1_25 rfl dX1_waysOf_19 rfl ?_
  refine g_iload_n C 23 1 dX1_waysOf_22 rfl rfl ?_
  refine bnd h (fun x2 e2 h => ?_)
  refine g_callNr C 26 [.int x1, .ref t] [.int x2, .int x1, .ref t] (ct_X7_at L (q 11) 5 (T.2 11) v1 x2 e2) kX7_at kvX7_at wn_X1_28 [8] rfl rfl rfl rfl rfl (Nat.le_of_ble_eq_true rfl) ⟨Nat.le_of_ble_eq_true rfl, Nat.le_of_ble_eq_true rfl⟩ ⟨Nat.zero_le _, Nat.zero_le _⟩ dX1_waysOf_23 rfl ?_
  refine g_aload_n C 27 0 dX1_waysOf_26 rfl rfl ?_
  refine g_get (v := .ref t) C 30 1 0 0 hin_1 rfl rfl (by decide) wf_X1_9 rfl dX1_waysOf_27 rfl ?_
  refine g_get (v := .int (T.1 3)) C 33 6 2 3 hin_6 rfl rfl (by decide) wf_X1_64 rfl dX1_waysOf_30 rfl ?_
  refine bnd h (fun x3 e3 h => ?_)
  refine g_callVr C 36 [] [.int x3] (ct_X6_waysPassed L t q T x1 x2 (T.1 3) x3 e3) kX6_waysPassed kvX6_waysPassed wl_X1_92 6 0 rfl rfl rfl [2, 3, 4, 5, 6, 7, 8] rfl rfl rfl rfl rfl (Nat.le_of_ble_eq_true rfl) ⟨Nat.le_of_ble_eq_true rfl, Nat.le_of_ble_eq_true rfl⟩ ⟨Nat.zero_le _, Nat.zero_le _⟩ dX1_waysOf_33 rfl ?_
  exact g_iret (st := []) C E dX1_waysOf_36 (by obtain rfl := Option.some.inj h; exact ⟨rfl, rfl⟩)
set_option maxHeartbeats 4000000 in
set_option maxRecDepth 100000 in
theorem ct_X1_twosAlike (L : LL) (o : Nat) (u : Nat → Nat) (t : Nat) (q : Nat → Nat) (S : OS) (T : OS) (x : Int32) (h : f_X1_twosAlike S T = some x) : Ct L yX1_twosAlike cX1_twosAlike 5 (some .int) (rmk 5 0 0 118) 0 0 [.ref o] (cells1 L o u t q S T) (Pv (some (.int x)) (cells1 L o u t q S T)) := by
  refine g_enter (lv := [(0, .ref o)]) kX1_twosAlike rfl rfl (Nat.le_of_ble_eq_true rfl) (fun Γ C E hNL => ?_)
  have J_4 : ∀ (n : Nat)  (v1 : Int32) (v2 : Int32), Lp2 (b_X1_twosAlike_4 S T  ) n v1 v2 = some x → G L Γ 0 0 (cells1 L o u t q S T) 4 [(0, .ref o), (1, .int v1), (2, .int v2)] [] := by
    intro n 
    refine lp_ok2 (fun v1 v2 => G L Γ 0 0 (cells1 L o u t q S T) 4 [(0, .ref o), (1, .int v1), (2, .int v2)] []) (fun k_4 hk_4 => ?_) n
    have J_57 : ∀ (v1 : Int32) (v2 : Int32), j_X1_twosAlike_57 S T k_4 v1 v2 = some x → G L Γ 0 0 (cells1 L o u t q S T) 57 [(0, .ref o), (1, .int v1), (2, .int v2)] [] := by
      intro v1 v2 h
      unfold j_X1_twosAlike_57 at h
      refine g_iinc C 60 (1 : Int32) 2 [(2, .int (v2 + (1 : Int32))), (0, .ref o), (1, .int v1)] dX1_twosAlike_57 rfl rfl 5 hNL (by decide) rfl rfl ?_
      refine g_goto C 4 dX1_twosAlike_60 (by decide) ?_
      refine g_lv (lv' := [(0, .ref o), (1, .int v1), (2, .int (v2 + (1 : Int32)))]) [1, 2, 0] rfl ?_
      exact hk_4 _ _ h
    have J_26 : ∀ (n : Nat) (v2 : Int32) (v3 : Int32) (v1 : Int32) (v4 : Int32), Lp2 (b_X1_twosAlike_26 S T k_4 v2 v3) n v1 v4 = some x → G L Γ 0 0 (cells1 L o u t q S T) 26 [(0, .ref o), (1, .int v1), (2, .int v2), (3, .int v3), (4, .int v4)] [] := by
      intro n v2 v3
      refine lp_ok2 (fun v1 v4 => G L Γ 0 0 (cells1 L o u t q S T) 26 [(0, .ref o), (1, .int v1), (2, .int v2), (3, .int v3), (4, .int v4)] []) (fun k_26 hk_26 => ?_) n
      have J_51 : ∀ (v1 : Int32) (v4 : Int32), j_X1_twosAlike_51 S T k_4 k_26 v1 v2 v3 v4 = some x → G L Γ 0 0 (cells1 L o u t q S T) 51 [(0, .ref o), (1, .int v1), (2, .int v2), (3, .int v3), (4, .int v4)] [] := by
        intro v1 v4 h
        unfold j_X1_twosAlike_51 at h
        refine g_iinc C 54 (1 : Int32) 4 [(4, .int (v4 + (1 : Int32))), (0, .ref o), (1, .int v1), (2, .int v2), (3, .int v3)] dX1_twosAlike_51 rfl rfl 5 hNL (by decide) rfl rfl ?_
        refine g_goto C 26 dX1_twosAlike_54 (by decide) ?_
        refine g_lv (lv' := [(0, .ref o), (1, .int v1), (2, .int v2), (3, .int v3), (4, .int (v4 + (1 : Int32)))]) [1, 2, 3, 4, 0] rfl ?_
        exact hk_26 _ _ h
      intro v1 v4 h
      unfold b_X1_twosAlike_26 at h
      refine g_iload C 28 4 dX1_twosAlike_26 rfl rfl ?_
      refine g_aload_n C 29 0 dX1_twosAlike_28 rfl rfl ?_
      refine g_get (v := .ref t) C 32 1 0 0 hin_1 rfl rfl (by decide) wf_X1_9 rfl dX1_twosAlike_29 rfl ?_
      refine g_get (v := .int (T.1 2)) C 35 6 2 2 hin_6 rfl rfl (by decide) wf_X1_19 rfl dX1_twosAlike_32 rfl ?_
      refine g_icmp_ge C 57 38 dX1_twosAlike_35 (by decide) rfl (fun c => ?_) (fun c => ?_)
      · have h := ifT c h
        refine g_lv (lv' := [(0, .ref o), (1, .int v1), (2, .int v2)]) [0, 1, 2] rfl ?_
        exact J_57 _ _ h
      · have h := ifF c h
        refine g_iload_n C 39 3 dX1_twosAlike_38 rfl rfl ?_
        refine g_aload_n C 40 0 dX1_twosAlike_39 rfl rfl ?_
        refine g_iload C 42 4 dX1_twosAlike_40 rfl rfl ?_
        refine bnd h (fun x2 e2 h => ?_)
        refine g_callVr C 45 [.int v3] [.int x2, .int v3] (ct_X1_waysOf L o u t q S T v4 x2 e2) kX1_waysOf kvX1_waysOf wl_X1_89 1 0 rfl rfl rfl [0, 1, 2, 3, 4, 5, 6, 7, 8] rfl rfl rfl rfl rfl (Nat.le_of_ble_eq_true rfl) ⟨Nat.le_of_ble_eq_true rfl, Nat.le_of_ble_eq_true rfl⟩ ⟨Nat.zero_le _, Nat.zero_le _⟩ dX1_twosAlike_42 rfl ?_
        refine g_icmp_ne C 51 48 dX1_twosAlike_45 (by decide) rfl (fun c => ?_) (fun c => ?_)
        · have h := ifF c h
          exact J_51 _ _ h
        · have h := ifT c h
          refine g_iinc C 51 (1 : Int32) 1 [(1, .int (v1 + (1 : Int32))), (0, .ref o), (2, .int v2), (3, .int v3), (4, .int v4)] dX1_twosAlike_48 rfl rfl 5 hNL (by decide) rfl rfl ?_
          refine g_lv (lv' := [(0, .ref o), (1, .int (v1 + (1 : Int32))), (2, .int v2), (3, .int v3), (4, .int v4)]) [1, 0, 2, 3, 4] rfl ?_
          exact J_51 _ _ h
    intro v1 v2 h
    unfold b_X1_twosAlike_4 at h
    refine g_iload_n C 5 2 dX1_twosAlike_4 rfl rfl ?_
    refine g_aload_n C 6 0 dX1_twosAlike_5 rfl rfl ?_
    refine g_get (v := .ref t) C 9 1 0 0 hin_1 rfl rfl (by decide) wf_X1_9 rfl dX1_twosAlike_6 rfl ?_
    refine g_get (v := .int (T.1 2)) C 12 6 2 2 hin_6 rfl rfl (by decide) wf_X1_19 rfl dX1_twosAlike_9 rfl ?_
    refine g_icmp_ge C 63 15 dX1_twosAlike_12 (by decide) rfl (fun c => ?_) (fun c => ?_)
    · have h := ifT c h
      refine g_iload_n C 64 1 dX1_twosAlike_63 rfl rfl ?_
      exact g_iret (st := []) C E dX1_twosAlike_64 (by obtain rfl := Option.some.inj h; exact ⟨rfl, rfl⟩)
    · have h := ifF c h
      refine g_aload_n C 16 0 dX1_twosAlike_15 rfl rfl ?_
      refine g_iload_n C 17 2 dX1_twosAlike_16 rfl rfl ?_
      refine bnd h (fun x1 e1 h => ?_)
      refine g_callVr C 20 [] [.int x1] (ct_X1_waysOf L o u t q S T v2 x1 e1) kX1_waysOf kvX1_waysOf wl_X1_89 1 0 rfl rfl rfl [0, 1, 2, 3, 4, 5, 6, 7, 8] rfl rfl rfl rfl rfl (Nat.le_of_ble_eq_true rfl) ⟨Nat.le_of_ble_eq_true rfl, Nat.le_of_ble_eq_true rfl⟩ ⟨Nat.zero_le _, Nat.zero_le _⟩ dX1_twosAlike_17 rfl ?_
      refine g_istore_n C 21 3 [(3, .int x1), (0, .ref o), (1, .int v1), (2, .int v2)] dX1_twosAlike_20 rfl rfl 5 hNL (by decide) rfl ?_
      refine g_iload_n C 22 3 dX1_twosAlike_21 rfl rfl ?_
      refine g_iconst C 23 (1 : Int32) dX1_twosAlike_22 rfl rfl ?_
      refine g_iadd C 24 dX1_twosAlike_23 rfl ?_
      refine g_istore C 26 4 [(4, .int (v2 + (1 : Int32))), (3, .int x1), (0, .ref o), (1, .int v1), (2, .int v2)] dX1_twosAlike_24 rfl 5 hNL (by decide) rfl ?_
      refine g_lv (lv' := [(0, .ref o), (1, .int v1), (2, .int v2), (3, .int x1), (4, .int (v2 + (1 : Int32)))]) [2, 3, 4, 1, 0] rfl ?_
      exact J_26 _ _ _ _ _ h
  unfold f_X1_twosAlike at h
  refine g_iconst C 1 (0 : Int32) dX1_twosAlike_0 rfl rfl ?_
  refine g_istore_n C 2 1 [(1, .int (0 : Int32)), (0, .ref o)] dX1_twosAlike_1 rfl rfl 5 hNL (by decide) rfl ?_
  refine g_iconst C 3 (0 : Int32) dX1_twosAlike_2 rfl rfl ?_
  refine g_istore_n C 4 2 [(2, .int (0 : Int32)), (1, .int (0 : Int32)), (0, .ref o)] dX1_twosAlike_3 rfl rfl 5 hNL (by decide) rfl ?_
  refine g_lv (lv' := [(0, .ref o), (1, .int (0 : Int32)), (2, .int (0 : Int32))]) [2, 1, 0] rfl ?_
  exact J_4 _ _ _ h
set_option maxHeartbeats 4000000 in
set_option maxRecDepth 100000 in
theorem ct_X1_drawn (L : LL) (v0 : Int32) (x : Int32) (h : f_X1_drawn v0 = some x) : Ct L yX1_drawn cX1_drawn 1 (some .int) (rmk 0 0 0 0) 0 0 [.int v0] [] (Pv (some (.int x)) []) := by
  refine g_enter (lv := [(0, .int v0)]) kX1_drawn rfl rfl (Nat.le_of_ble_eq_true rfl) (fun Γ C E hNL => ?_)
  unfold f_X1_drawn at h
  refine g_iload_n C 1 0 dX1_drawn_0 rfl rfl ?_
  refine g_ldc (v := (1103515245 : Int32)) C 3 dX1_drawn_1 rfl wc_X1_104 ?_
  refine g_imul C 4 dX1_drawn_3 rfl ?_
  refine g_sipush C 7 (12345 : Int32) dX1_drawn_4 rfl rfl ?_
  refine g_iadd C 8 dX1_drawn_7 rfl ?_
  exact g_iret (st := []) C E dX1_drawn_8 (by obtain rfl := Option.some.inj h; exact ⟨rfl, rfl⟩)
set_option maxHeartbeats 4000000 in
set_option maxRecDepth 100000 in
theorem ct_X1_below (L : LL) (v0 : Int32) (v1 : Int32) (x : Int32) (h : f_X1_below v0 v1 = some x) : Ct L yX1_below cX1_below 2 (some .int) (rmk 1 0 0 21) 0 0 [.int v0, .int v1] [] (Pv (some (.int x)) []) := by
  refine g_enter (lv := [(0, .int v0), (1, .int v1)]) kX1_below rfl rfl (Nat.le_of_ble_eq_true rfl) (fun Γ C E hNL => ?_)
  unfold f_X1_below at h
  refine g_iload_n C 1 0 dX1_below_0 rfl rfl ?_
  refine g_ldc (v := (2147483647 : Int32)) C 3 dX1_below_1 rfl wc_X1_105 ?_
  refine g_iand C 4 dX1_below_3 rfl ?_
  refine g_bipush C 6 (16 : Int32) dX1_below_4 rfl rfl ?_
  refine g_ishr C 7 dX1_below_6 rfl ?_
  refine g_iload_n C 8 1 dX1_below_7 rfl rfl ?_
  refine bnd h (fun x1 e1 h => ?_)
  refine g_callNr C 11 [] [.int x1] (ct_X7_remainder L ((v0 &&& (2147483647 : Int32)) >>> ((16 : Int32) &&& 31)) v1 x1 e1) kX7_remainder kvX7_remainder wn_X1_95 [] rfl rfl rfl rfl rfl (Nat.le_of_ble_eq_true rfl) ⟨Nat.le_of_ble_eq_true rfl, Nat.le_of_ble_eq_true rfl⟩ ⟨Nat.zero_le _, Nat.zero_le _⟩ dX1_below_8 rfl ?_
  exact g_iret (st := []) C E dX1_below_11 (by obtain rfl := Option.some.inj h; exact ⟨rfl, rfl⟩)
set_option maxHeartbeats 4000000 in
set_option maxRecDepth 100000 in
theorem ct_X1_byLot (L : LL) (o : Nat) (u : Nat → Nat) (t : Nat) (q : Nat → Nat) (S : OS) (T : OS) (v1 : Int32) (v2 : Int32) (v3 : Int32) (x : Int32) (h : f_X1_byLot S T v1 v2 v3 = some x) : Ct L yX1_byLot cX1_byLot 11 (some .int) (rmk 4 0 0 95) 0 0 [.ref o, .int v1, .int v2, .int v3] (cells1 L o u t q S T) (Pv (some (.int x)) (cells1 L o u t q S T)) := by
  refine g_enter (lv := [(0, .ref o), (1, .int v1), (2, .int v2), (3, .int v3)]) kX1_byLot rfl rfl (Nat.le_of_ble_eq_true rfl) (fun Γ C E hNL => ?_)
  have J_137 : ∀ (v3 : Int32) (v5 : Int32) (v6 : Int32), j_X1_byLot_137 S T  v3 v5 v6 = some x → G L Γ 0 0 (cells1 L o u t q S T) 137 [(3, .int v3), (5, .int v5), (6, .int v6)] [] := by
    intro v3 v5 v6 h
    unfold j_X1_byLot_137 at h
    refine g_iload_n C 138 0 dX1_byLot_137 rfl rfl ?_
    refine g_if_ne C 146 141 dX1_byLot_138 (by decide) rfl (fun c => ?_) (fun c => ?_)
    · have h := ifF c h
      refine g_iload C 148 2 dX1_byLot_146 rfl rfl ?_
      exact g_iret (st := []) C E dX1_byLot_148 (by obtain rfl := Option.some.inj h; exact ⟨rfl, rfl⟩)
    · have h := ifT c h
      refine g_iload C 143 1 dX1_byLot_141 rfl rfl ?_
      refine g_goto C 148 dX1_byLot_143 (by decide) ?_
      exact g_iret (st := []) C E dX1_byLot_148 (by obtain rfl := Option.some.inj h; exact ⟨rfl, rfl⟩)
  have J_12 : ∀ (n : Nat) (v1 : Int32) (v3 : Int32) (v4 : Int32) (v5 : Int32) (v6 : Int32) (v7 : Int32), Lp4 (b_X1_byLot_12 S T  v1 v3) n v4 v5 v6 v7 = some x → G L Γ 0 0 (cells1 L o u t q S T) 12 [(0, .ref o), (1, .int v1), (3, .int v3), (4, .int v4), (5, .int v5), (6, .int v6), (7, .int v7)] [] := by
    intro n v1 v3
    refine lp_ok4 (fun v4 v5 v6 v7 => G L Γ 0 0 (cells1 L o u t q S T) 12 [(0, .ref o), (1, .int v1), (3, .int v3), (4, .int v4), (5, .int v5), (6, .int v6), (7, .int v7)] []) (fun k_12 hk_12 => ?_) n
    have J_110 : ∀ (v4 : Int32) (v6 : Int32) (v7 : Int32) (v8 : Int32) (v9 : Int32) (v10 : Int32) (s0 : Int32) (s1 : Int32), j_X1_byLot_110 S T k_12 v1 v3 v4 v6 v7 v8 v9 v10 s0 s1 = some x → G L Γ 0 0 (cells1 L o u t q S T) 110 [(0, .ref o), (1, .int v1), (3, .int v3), (4, .int v4), (6, .int v6), (7, .int v7), (8, .int v8), (9, .int v9), (10, .int v10)] [.int s0, .int s1] := by
      intro v4 v6 v7 v8 v9 v10 s0 s1 h
      unfold j_X1_byLot_110 at h
      refine g_iadd C 111 dX1_byLot_110 rfl ?_
      refine g_istore C 113 5 [(5, .int (s1 + s0)), (0, .ref o), (1, .int v1), (3, .int v3), (4, .int v4), (6, .int v6), (7, .int v7), (8, .int v8), (9, .int v9), (10, .int v10)] dX1_byLot_111 rfl 11 hNL (by decide) rfl ?_
      refine g_iload C 115 5 dX1_byLot_113 rfl rfl ?_
      refine g_aload_n C 116 1 dX1_byLot_115 rfl rfl ?_
      refine g_get (v := .ref t) C 119 1 0 0 hin_1 rfl rfl (by decide) wf_X1_9 rfl dX1_byLot_116 rfl ?_
      refine g_iload C 121 7 dX1_byLot_119 rfl rfl ?_
      refine g_iload C 123 9 dX1_byLot_121 rfl rfl ?_
      refine g_iload C 125 8 dX1_byLot_123 rfl rfl ?_
      refine bnd h (fun x7 e7 h => ?_)
      refine g_callVr C 128 [.int v6] [.int x7, .int v6] (ct_X6_faultsOn L t q T v8 v10 v9 x7 e7) kX6_faultsOn kvX6_faultsOn wl_X1_74 6 0 rfl rfl rfl [2, 3, 4, 5, 6, 7, 8] rfl rfl rfl rfl rfl (Nat.le_of_ble_eq_true rfl) ⟨Nat.le_of_ble_eq_true rfl, Nat.le_of_ble_eq_true rfl⟩ ⟨Nat.zero_le _, Nat.zero_le _⟩ dX1_byLot_125 rfl ?_
      refine g_iadd C 129 dX1_byLot_128 rfl ?_
      refine g_istore C 131 6 [(6, .int (v6 + x7)), (5, .int (s1 + s0)), (0, .ref o), (1, .int v1), (3, .int v3), (4, .int v4), (7, .int v7), (8, .int v8), (9, .int v9), (10, .int v10)] dX1_byLot_129 rfl 11 hNL (by decide) rfl ?_
      refine g_iinc C 134 (1 : Int32) 6 [(7, .int (v7 + (1 : Int32))), (6, .int (v6 + x7)), (5, .int (s1 + s0)), (0, .ref o), (1, .int v1), (3, .int v3), (4, .int v4), (8, .int v8), (9, .int v9), (10, .int v10)] dX1_byLot_131 rfl rfl 11 hNL (by decide) rfl rfl ?_
      refine g_goto C 12 dX1_byLot_134 (by decide) ?_
      refine g_lv (lv' := [(0, .ref o), (1, .int v1), (3, .int v3), (4, .int v4), (5, .int (s1 + s0)), (6, .int (v6 + x7)), (7, .int (v7 + (1 : Int32)))]) [3, 4, 5, 6, 2, 1, 0] rfl ?_
      exact hk_12 _ _ _ _ h
    intro v4 v5 v6 v7 h
    unfold b_X1_byLot_12 at h
    refine g_iload C 14 6 dX1_byLot_12 rfl rfl ?_
    refine g_iload_n C 15 1 dX1_byLot_14 rfl rfl ?_
    refine g_aload_n C 16 0 dX1_byLot_15 rfl rfl ?_
    refine g_get (v := .ref t) C 19 1 0 0 hin_1 rfl rfl (by decide) wf_X1_9 rfl dX1_byLot_16 rfl ?_
    refine g_get (v := .int (T.1 2)) C 22 6 2 2 hin_6 rfl rfl (by decide) wf_X1_19 rfl dX1_byLot_19 rfl ?_
    refine g_imul C 23 dX1_byLot_22 rfl ?_
    refine g_icmp_ge C 137 26 dX1_byLot_23 (by decide) rfl (fun c => ?_) (fun c => ?_)
    · have h := ifT c h
      refine g_lv (lv' := [(3, .int v3), (5, .int v5), (6, .int v6)]) [2, 4, 5] rfl ?_
      exact J_137 _ _ _ h
    · have h := ifF c h
      refine g_aload_n C 27 0 dX1_byLot_26 rfl rfl ?_
      refine g_get (v := .ref t) C 30 1 0 0 hin_1 rfl rfl (by decide) wf_X1_9 rfl dX1_byLot_27 rfl ?_
      refine g_get (v := .int (T.1 1)) C 33 6 2 1 hin_6 rfl rfl (by decide) wf_X1_80 rfl dX1_byLot_30 rfl ?_
      refine g_if_le C 137 36 dX1_byLot_33 (by decide) rfl (fun c => ?_) (fun c => ?_)
      · have h := ifT c h
        refine g_lv (lv' := [(3, .int v3), (5, .int v5), (6, .int v6)]) [2, 4, 5] rfl ?_
        exact J_137 _ _ _ h
      · have h := ifF c h
        refine g_iload C 38 6 dX1_byLot_36 rfl rfl ?_
        refine g_aload_n C 39 0 dX1_byLot_38 rfl rfl ?_
        refine g_get (v := .ref t) C 42 1 0 0 hin_1 rfl rfl (by decide) wf_X1_9 rfl dX1_byLot_39 rfl ?_
        refine g_get (v := .int (T.1 2)) C 45 6 2 2 hin_6 rfl rfl (by decide) wf_X1_19 rfl dX1_byLot_42 rfl ?_
        refine bnd h (fun x1 e1 h => ?_)
        refine g_callNr C 48 [] [.int x1] (ct_X7_remainder L v7 (T.1 2) x1 e1) kX7_remainder kvX7_remainder wn_X1_95 [] rfl rfl rfl rfl rfl (Nat.le_of_ble_eq_true rfl) ⟨Nat.le_of_ble_eq_true rfl, Nat.le_of_ble_eq_true rfl⟩ ⟨Nat.zero_le _, Nat.zero_le _⟩ dX1_byLot_45 rfl ?_
        refine g_istore C 50 8 [(8, .int x1), (0, .ref o), (1, .int v1), (3, .int v3), (4, .int v4), (5, .int v5), (6, .int v6), (7, .int v7)] dX1_byLot_48 rfl 11 hNL (by decide) rfl ?_
        refine g_iload C 52 4 dX1_byLot_50 rfl rfl ?_
        refine bnd h (fun x2 e2 h => ?_)
        refine g_callSr C 55 [] [.int x2] (ct_X1_drawn L v4 x2 e2) kX1_drawn kvX1_drawn wl_X1_98 [] rfl rfl rfl rfl rfl (Nat.le_of_ble_eq_true rfl) ⟨Nat.le_of_ble_eq_true rfl, Nat.le_of_ble_eq_true rfl⟩ ⟨Nat.zero_le _, Nat.zero_le _⟩ dX1_byLot_52 rfl ?_
        refine g_istore C 57 4 [(4, .int x2), (8, .int x1), (0, .ref o), (1, .int v1), (3, .int v3), (5, .int v5), (6, .int v6), (7, .int v7)] dX1_byLot_55 rfl 11 hNL (by decide) rfl ?_
        refine g_iload C 59 0 dX1_byLot_57 rfl rfl ?_
        refine g_bipush C 61 (24 : Int32) dX1_byLot_59 rfl rfl ?_
        refine bnd h (fun x3 e3 h => ?_)
        refine g_callSr C 64 [] [.int x3] (ct_X1_below L x2 (24 : Int32) x3 e3) kX1_below kvX1_below wl_X1_101 [] rfl rfl rfl rfl rfl (Nat.le_of_ble_eq_true rfl) ⟨Nat.le_of_ble_eq_true rfl, Nat.le_of_ble_eq_true rfl⟩ ⟨Nat.zero_le _, Nat.zero_le _⟩ dX1_byLot_61 rfl ?_
        refine g_istore C 66 9 [(9, .int x3), (4, .int x2), (8, .int x1), (0, .ref o), (1, .int v1), (3, .int v3), (5, .int v5), (6, .int v6), (7, .int v7)] dX1_byLot_64 rfl 11 hNL (by decide) rfl ?_
        refine g_iload C 68 1 dX1_byLot_66 rfl rfl ?_
        refine bnd h (fun x4 e4 h => ?_)
        refine g_callSr C 71 [] [.int x4] (ct_X1_drawn L x2 x4 e4) kX1_drawn kvX1_drawn wl_X1_98 [] rfl rfl rfl rfl rfl (Nat.le_of_ble_eq_true rfl) ⟨Nat.le_of_ble_eq_true rfl, Nat.le_of_ble_eq_true rfl⟩ ⟨Nat.zero_le _, Nat.zero_le _⟩ dX1_byLot_68 rfl ?_
        refine g_istore C 73 4 [(4, .int x4), (9, .int x3), (8, .int x1), (0, .ref o), (1, .int v1), (3, .int v3), (5, .int v5), (6, .int v6), (7, .int v7)] dX1_byLot_71 rfl 11 hNL (by decide) rfl ?_
        refine g_iload C 75 0 dX1_byLot_73 rfl rfl ?_
        refine g_aload_n C 76 3 dX1_byLot_75 rfl rfl ?_
        refine g_get (v := .ref t) C 79 1 0 0 hin_1 rfl rfl (by decide) wf_X1_9 rfl dX1_byLot_76 rfl ?_
        refine g_get (v := .int (T.1 1)) C 82 6 2 1 hin_6 rfl rfl (by decide) wf_X1_80 rfl dX1_byLot_79 rfl ?_
        refine bnd h (fun x5 e5 h => ?_)
        refine g_callSr C 85 [] [.int x5] (ct_X1_below L x4 (T.1 1) x5 e5) kX1_below kvX1_below wl_X1_101 [] rfl rfl rfl rfl rfl (Nat.le_of_ble_eq_true rfl) ⟨Nat.le_of_ble_eq_true rfl, Nat.le_of_ble_eq_true rfl⟩ ⟨Nat.zero_le _, Nat.zero_le _⟩ dX1_byLot_82 rfl ?_
        refine g_istore C 87 10 [(10, .int x5), (4, .int x4), (9, .int x3), (8, .int x1), (0, .ref o), (1, .int v1), (3, .int v3), (5, .int v5), (6, .int v6), (7, .int v7)] dX1_byLot_85 rfl 11 hNL (by decide) rfl ?_
        refine g_iload C 89 7 dX1_byLot_87 rfl rfl ?_
        refine g_aload_n C 90 4 dX1_byLot_89 rfl rfl ?_
        refine g_get (v := .ref t) C 93 1 0 0 hin_1 rfl rfl (by decide) wf_X1_9 rfl dX1_byLot_90 rfl ?_
        refine g_iload C 95 3 dX1_byLot_93 rfl rfl ?_
        refine g_iload C 97 0 dX1_byLot_95 rfl rfl ?_
        refine g_iload C 99 2 dX1_byLot_97 rfl rfl ?_
        refine bnd h (fun x6 e6 h => ?_)
        refine g_callVr C 102 [.int v5] [.int x6, .int v5] (ct_X6_passes L t q T x1 x5 x3 x6 e6) kX6_passes kvX6_passes wl_X1_67 6 0 rfl rfl rfl [2, 3, 4, 5, 6, 7, 8] rfl rfl rfl rfl rfl (Nat.le_of_ble_eq_true rfl) ⟨Nat.le_of_ble_eq_true rfl, Nat.le_of_ble_eq_true rfl⟩ ⟨Nat.zero_le _, Nat.zero_le _⟩ dX1_byLot_99 rfl ?_
        refine g_if_eq C 109 105 dX1_byLot_102 (by decide) rfl (fun c => ?_) (fun c => ?_)
        · have h := ifT c h
          refine g_iconst C 110 (0 : Int32) dX1_byLot_109 rfl rfl ?_
          refine g_lv (lv' := [(0, .ref o), (1, .int v1), (3, .int v3), (4, .int x4), (6, .int v6), (7, .int v7), (8, .int x1), (9, .int x3), (10, .int x5)]) [4, 5, 6, 1, 8, 9, 3, 2, 0] rfl ?_
          exact J_110 _ _ _ _ _ _ _ _ h
        · have h := ifF c h
          refine g_iconst C 106 (1 : Int32) dX1_byLot_105 rfl rfl ?_
          refine g_goto C 110 dX1_byLot_106 (by decide) ?_
          refine g_lv (lv' := [(0, .ref o), (1, .int v1), (3, .int v3), (4, .int x4), (6, .int v6), (7, .int v7), (8, .int x1), (9, .int x3), (10, .int x5)]) [4, 5, 6, 1, 8, 9, 3, 2, 0] rfl ?_
          exact J_110 _ _ _ _ _ _ _ _ h
  unfold f_X1_byLot at h
  refine g_iload_n C 1 2 dX1_byLot_0 rfl rfl ?_
  refine g_istore C 3 4 [(4, .int v2), (0, .ref o), (1, .int v1), (2, .int v2), (3, .int v3)] dX1_byLot_1 rfl 11 hNL (by decide) rfl ?_
  refine g_iconst C 4 (0 : Int32) dX1_byLot_3 rfl rfl ?_
  refine g_istore C 6 5 [(5, .int (0 : Int32)), (4, .int v2), (0, .ref o), (1, .int v1), (2, .int v2), (3, .int v3)] dX1_byLot_4 rfl 11 hNL (by decide) rfl ?_
  refine g_iconst C 7 (0 : Int32) dX1_byLot_6 rfl rfl ?_
  refine g_istore C 9 6 [(6, .int (0 : Int32)), (5, .int (0 : Int32)), (4, .int v2), (0, .ref o), (1, .int v1), (2, .int v2), (3, .int v3)] dX1_byLot_7 rfl 11 hNL (by decide) rfl ?_
  refine g_iconst C 10 (0 : Int32) dX1_byLot_9 rfl rfl ?_
  refine g_istore C 12 7 [(7, .int (0 : Int32)), (6, .int (0 : Int32)), (5, .int (0 : Int32)), (4, .int v2), (0, .ref o), (1, .int v1), (2, .int v2), (3, .int v3)] dX1_byLot_10 rfl 11 hNL (by decide) rfl ?_
  refine g_lv (lv' := [(0, .ref o), (1, .int v1), (3, .int v3), (4, .int v2), (5, .int (0 : Int32)), (6, .int (0 : Int32)), (7, .int (0 : Int32))]) [4, 5, 7, 3, 2, 1, 0] rfl ?_
  exact J_12 _ _ _ _ _ _ _ h
set_option maxHeartbeats 4000000 in
set_option maxRecDepth 100000 in
theorem ct_X2_skillOf (L : LL) (o : Nat) (t : Nat) (q : Nat → Nat) (T : OS) (v1 : Int32) (x : Int32) (h : f_X2_skillOf T v1 = some x) : Ct L yX2_skillOf cX2_skillOf 2 (some .int) (rmk 1 0 0 21) 0 0 [.ref o, .int v1] (cells2 L o t q T) (Pv (some (.int x)) (cells2 L o t q T)) := by
  refine g_enter (lv := [(0, .ref o), (1, .int v1)]) kX2_skillOf rfl rfl (Nat.le_of_ble_eq_true rfl) (fun Γ C E hNL => ?_)
  unfold f_X2_skillOf at h
  refine g_aload_n C 1 0 dX2_skillOf_0 rfl rfl ?_
  refine g_get (v := .ref t) C 4 2 0 0 hin_2 rfl rfl (by decide) wf_X2_9 rfl dX2_skillOf_1 rfl ?_
  refine g_get (v := .ref (q 10)) C 7 6 1 10 hin_6 rfl rfl (by decide) wf_X2_15 rfl dX2_skillOf_4 rfl ?_
  refine g_iload_n C 8 1 dX2_skillOf_7 rfl rfl ?_
  refine bnd h (fun x1 e1 h => ?_)
  refine g_callNr C 11 [] [.int x1] (ct_X7_at L (q 10) 5 (T.2 10) v1 x1 e1) kX7_at kvX7_at wn_X2_21 [6] rfl rfl rfl rfl rfl (Nat.le_of_ble_eq_true rfl) ⟨Nat.le_of_ble_eq_true rfl, Nat.le_of_ble_eq_true rfl⟩ ⟨Nat.zero_le _, Nat.zero_le _⟩ dX2_skillOf_8 rfl ?_
  exact g_iret (st := []) C E dX2_skillOf_11 (by obtain rfl := Option.some.inj h; exact ⟨rfl, rfl⟩)
set_option maxHeartbeats 4000000 in
set_option maxRecDepth 100000 in
theorem ct_X2_knownOf (L : LL) (o : Nat) (t : Nat) (q : Nat → Nat) (T : OS) (v1 : Int32) (x : Int32) (h : f_X2_knownOf T v1 = some x) : Ct L yX2_knownOf cX2_knownOf 2 (some .int) (rmk 1 0 0 21) 0 0 [.ref o, .int v1] (cells2 L o t q T) (Pv (some (.int x)) (cells2 L o t q T)) := by
  refine g_enter (lv := [(0, .ref o), (1, .int v1)]) kX2_knownOf rfl rfl (Nat.le_of_ble_eq_true rfl) (fun Γ C E hNL => ?_)
  unfold f_X2_knownOf at h
  refine g_aload_n C 1 0 dX2_knownOf_0 rfl rfl ?_
  refine g_get (v := .ref t) C 4 2 0 0 hin_2 rfl rfl (by decide) wf_X2_9 rfl dX2_knownOf_1 rfl ?_
  refine g_get (v := .ref (q 11)) C 7 6 1 11 hin_6 rfl rfl (by decide) wf_X2_25 rfl dX2_knownOf_4 rfl ?_
  refine g_iload_n C 8 1 dX2_knownOf_7 rfl rfl ?_
  refine bnd h (fun x1 e1 h => ?_)
  refine g_callNr C 11 [] [.int x1] (ct_X7_at L (q 11) 5 (T.2 11) v1 x1 e1) kX7_at kvX7_at wn_X2_21 [7] rfl rfl rfl rfl rfl (Nat.le_of_ble_eq_true rfl) ⟨Nat.le_of_ble_eq_true rfl, Nat.le_of_ble_eq_true rfl⟩ ⟨Nat.zero_le _, Nat.zero_le _⟩ dX2_knownOf_8 rfl ?_
  exact g_iret (st := []) C E dX2_knownOf_11 (by obtain rfl := Option.some.inj h; exact ⟨rfl, rfl⟩)
set_option maxHeartbeats 4000000 in
set_option maxRecDepth 100000 in
theorem ct_X2_worstStreet (L : LL) (o : Nat) (t : Nat) (q : Nat → Nat) (T : OS) (v1 : Int32) (v2 : Int32) (v3 : Int32) (x : Int32) (h : f_X2_worstStreet T v1 v2 v3 = some x) : Ct L yX2_worstStreet cX2_worstStreet 9 (some .int) (rmk 3 0 0 68) 0 0 [.ref o, .int v1, .int v2, .int v3] (cells2 L o t q T) (Pv (some (.int x)) (cells2 L o t q T)) := by
  refine g_enter (lv := [(0, .ref o), (1, .int v1), (2, .int v2), (3, .int v3)]) kX2_worstStreet rfl rfl (Nat.le_of_ble_eq_true rfl) (fun Γ C E hNL => ?_)
  have J_22 : ∀ (n : Nat) (v1 : Int32) (v3 : Int32) (v4 : Int32) (v5 : Int32) (v6 : Int32) (v7 : Int32), Lp3 (b_X2_worstStreet_22 T  v1 v3 v4) n v5 v6 v7 = some x → G L Γ 0 0 (cells2 L o t q T) 22 [(0, .ref o), (1, .int v1), (3, .int v3), (4, .int v4), (5, .int v5), (6, .int v6), (7, .int v7)] [] := by
    intro n v1 v3 v4
    refine lp_ok3 (fun v5 v6 v7 => G L Γ 0 0 (cells2 L o t q T) 22 [(0, .ref o), (1, .int v1), (3, .int v3), (4, .int v4), (5, .int v5), (6, .int v6), (7, .int v7)] []) (fun k_22 hk_22 => ?_) n
    have J_72 : ∀ (v5 : Int32) (v6 : Int32) (v7 : Int32), j_X2_worstStreet_72 T k_22 v1 v3 v4 v5 v6 v7 = some x → G L Γ 0 0 (cells2 L o t q T) 72 [(0, .ref o), (1, .int v1), (3, .int v3), (4, .int v4), (5, .int v5), (6, .int v6), (7, .int v7)] [] := by
      intro v5 v6 v7 h
      unfold j_X2_worstStreet_72 at h
      refine g_iinc C 75 (1 : Int32) 6 [(7, .int (v7 + (1 : Int32))), (0, .ref o), (1, .int v1), (3, .int v3), (4, .int v4), (5, .int v5), (6, .int v6)] dX2_worstStreet_72 rfl rfl 9 hNL (by decide) rfl rfl ?_
      refine g_goto C 22 dX2_worstStreet_75 (by decide) ?_
      refine g_lv (lv' := [(0, .ref o), (1, .int v1), (3, .int v3), (4, .int v4), (5, .int v5), (6, .int v6), (7, .int (v7 + (1 : Int32)))]) [1, 2, 3, 4, 5, 6, 0] rfl ?_
      exact hk_22 _ _ _ h
    intro v5 v6 v7 h
    unfold b_X2_worstStreet_22 at h
    refine g_iload C 24 6 dX2_worstStreet_22 rfl rfl ?_
    refine g_aload_n C 25 0 dX2_worstStreet_24 rfl rfl ?_
    refine g_get (v := .ref t) C 28 2 0 0 hin_2 rfl rfl (by decide) wf_X2_9 rfl dX2_worstStreet_25 rfl ?_
    refine g_get (v := .int (T.1 0)) C 31 6 1 0 hin_6 rfl rfl (by decide) wf_X2_31 rfl dX2_worstStreet_28 rfl ?_
    refine g_icmp_ge C 78 34 dX2_worstStreet_31 (by decide) rfl (fun c => ?_) (fun c => ?_)
    · have h := ifT c h
      refine g_iload C 80 5 dX2_worstStreet_78 rfl rfl ?_
      exact g_iret (st := []) C E dX2_worstStreet_80 (by obtain rfl := Option.some.inj h; exact ⟨rfl, rfl⟩)
    · have h := ifF c h
      refine g_iload C 36 3 dX2_worstStreet_34 rfl rfl ?_
      refine g_iload C 38 6 dX2_worstStreet_36 rfl rfl ?_
      refine bnd h (fun x2 e2 h => ?_)
      refine g_callNr C 41 [] [.int x2] (ct_X7_has L v4 v7 x2 e2) kX7_has kvX7_has wn_X2_35 [] rfl rfl rfl rfl rfl (Nat.le_of_ble_eq_true rfl) ⟨Nat.le_of_ble_eq_true rfl, Nat.le_of_ble_eq_true rfl⟩ ⟨Nat.zero_le _, Nat.zero_le _⟩ dX2_worstStreet_38 rfl ?_
      refine g_if_eq C 72 44 dX2_worstStreet_41 (by decide) rfl (fun c => ?_) (fun c => ?_)
      · have h := ifT c h
        exact J_72 _ _ _ h
      · have h := ifF c h
        refine g_aload_n C 45 0 dX2_worstStreet_44 rfl rfl ?_
        refine g_get (v := .ref t) C 48 2 0 0 hin_2 rfl rfl (by decide) wf_X2_9 rfl dX2_worstStreet_45 rfl ?_
        refine g_iload_n C 49 1 dX2_worstStreet_48 rfl rfl ?_
        refine g_iload C 51 6 dX2_worstStreet_49 rfl rfl ?_
        refine g_iload_n C 52 2 dX2_worstStreet_51 rfl rfl ?_
        refine bnd h (fun x3 e3 h => ?_)
        refine g_callVr C 55 [] [.int x3] (ct_X6_faultsIn L t q T v1 v7 v3 x3 e3) kX6_faultsIn kvX6_faultsIn wl_X2_39 6 0 rfl rfl rfl [1, 2, 3, 4, 5, 6, 7] rfl rfl rfl rfl rfl (Nat.le_of_ble_eq_true rfl) ⟨Nat.le_of_ble_eq_true rfl, Nat.le_of_ble_eq_true rfl⟩ ⟨Nat.zero_le _, Nat.zero_le _⟩ dX2_worstStreet_52 rfl ?_
        refine g_istore C 57 8 [(8, .int x3), (0, .ref o), (1, .int v1), (3, .int v3), (4, .int v4), (5, .int v5), (6, .int v6), (7, .int v7)] dX2_worstStreet_55 rfl 9 hNL (by decide) rfl ?_
        refine g_iload C 59 0 dX2_worstStreet_57 rfl rfl ?_
        refine g_iload C 61 5 dX2_worstStreet_59 rfl rfl ?_
        refine g_icmp_le C 72 64 dX2_worstStreet_61 (by decide) rfl (fun c => ?_) (fun c => ?_)
        · have h := ifT c h
          refine g_lv (lv' := [(0, .ref o), (1, .int v1), (3, .int v3), (4, .int v4), (5, .int v5), (6, .int v6), (7, .int v7)]) [1, 2, 3, 4, 5, 6, 7] rfl ?_
          exact J_72 _ _ _ h
        · have h := ifF c h
          refine g_iload C 66 0 dX2_worstStreet_64 rfl rfl ?_
          refine g_istore C 68 5 [(5, .int x3), (8, .int x3), (0, .ref o), (1, .int v1), (3, .int v3), (4, .int v4), (6, .int v6), (7, .int v7)] dX2_worstStreet_66 rfl 9 hNL (by decide) rfl ?_
          refine g_iload C 70 7 dX2_worstStreet_68 rfl rfl ?_
          refine g_istore C 72 6 [(6, .int v7), (5, .int x3), (8, .int x3), (0, .ref o), (1, .int v1), (3, .int v3), (4, .int v4), (7, .int v7)] dX2_worstStreet_70 rfl 9 hNL (by decide) rfl ?_
          refine g_lv (lv' := [(0, .ref o), (1, .int v1), (3, .int v3), (4, .int v4), (5, .int x3), (6, .int v7), (7, .int v7)]) [3, 4, 5, 6, 1, 0, 7] rfl ?_
          exact J_72 _ _ _ h
  unfold f_X2_worstStreet at h
  refine g_aload_n C 1 0 dX2_worstStreet_0 rfl rfl ?_
  refine g_get (v := .ref t) C 4 2 0 0 hin_2 rfl rfl (by decide) wf_X2_9 rfl dX2_worstStreet_1 rfl ?_
  refine g_get (v := .ref (q 9)) C 7 6 1 9 hin_6 rfl rfl (by decide) wf_X2_28 rfl dX2_worstStreet_4 rfl ?_
  refine g_iload_n C 8 2 dX2_worstStreet_7 rfl rfl ?_
  refine bnd h (fun x1 e1 h => ?_)
  refine g_callNr C 11 [] [.int x1] (ct_X7_at L (q 9) 6 (T.2 9) v2 x1 e1) kX7_at kvX7_at wn_X2_21 [5] rfl rfl rfl rfl rfl (Nat.le_of_ble_eq_true rfl) ⟨Nat.le_of_ble_eq_true rfl, Nat.le_of_ble_eq_true rfl⟩ ⟨Nat.zero_le _, Nat.zero_le _⟩ dX2_worstStreet_8 rfl ?_
  refine g_istore C 13 4 [(4, .int x1), (0, .ref o), (1, .int v1), (2, .int v2), (3, .int v3)] dX2_worstStreet_11 rfl 9 hNL (by decide) rfl ?_
  refine g_iconst C 14 (-1 : Int32) dX2_worstStreet_13 rfl rfl ?_
  refine g_istore C 16 5 [(5, .int (-1 : Int32)), (4, .int x1), (0, .ref o), (1, .int v1), (2, .int v2), (3, .int v3)] dX2_worstStreet_14 rfl 9 hNL (by decide) rfl ?_
  refine g_iconst C 17 (0 : Int32) dX2_worstStreet_16 rfl rfl ?_
  refine g_istore C 19 6 [(6, .int (0 : Int32)), (5, .int (-1 : Int32)), (4, .int x1), (0, .ref o), (1, .int v1), (2, .int v2), (3, .int v3)] dX2_worstStreet_17 rfl 9 hNL (by decide) rfl ?_
  refine g_iconst C 20 (0 : Int32) dX2_worstStreet_19 rfl rfl ?_
  refine g_istore C 22 7 [(7, .int (0 : Int32)), (6, .int (0 : Int32)), (5, .int (-1 : Int32)), (4, .int x1), (0, .ref o), (1, .int v1), (2, .int v2), (3, .int v3)] dX2_worstStreet_20 rfl 9 hNL (by decide) rfl ?_
  refine g_lv (lv' := [(0, .ref o), (1, .int v1), (3, .int v3), (4, .int x1), (5, .int (-1 : Int32)), (6, .int (0 : Int32)), (7, .int (0 : Int32))]) [4, 5, 7, 3, 2, 1, 0] rfl ?_
  exact J_22 _ _ _ _ _ _ _ h
set_option maxHeartbeats 4000000 in
set_option maxRecDepth 100000 in
theorem ct_X2_hourOfFewest (L : LL) (o : Nat) (t : Nat) (q : Nat → Nat) (T : OS) (v1 : Int32) (v2 : Int32) (x : Int32) (h : f_X2_hourOfFewest T v1 v2 = some x) : Ct L yX2_hourOfFewest cX2_hourOfFewest 7 (some .int) (rmk 4 0 0 94) 0 0 [.ref o, .int v1, .int v2] (cells2 L o t q T) (Pv (some (.int x)) (cells2 L o t q T)) := by
  refine g_enter (lv := [(0, .ref o), (1, .int v1), (2, .int v2)]) kX2_hourOfFewest rfl rfl (Nat.le_of_ble_eq_true rfl) (fun Γ C E hNL => ?_)
  have J_10 : ∀ (n : Nat) (v1 : Int32) (v2 : Int32) (v3 : Int32) (v4 : Int32) (v5 : Int32), Lp3 (b_X2_hourOfFewest_10 T  v1 v2) n v3 v4 v5 = some x → G L Γ 0 0 (cells2 L o t q T) 10 [(0, .ref o), (1, .int v1), (2, .int v2), (3, .int v3), (4, .int v4), (5, .int v5)] [] := by
    intro n v1 v2
    refine lp_ok3 (fun v3 v4 v5 => G L Γ 0 0 (cells2 L o t q T) 10 [(0, .ref o), (1, .int v1), (2, .int v2), (3, .int v3), (4, .int v4), (5, .int v5)] []) (fun k_10 hk_10 => ?_) n
    have J_43 : ∀ (v3 : Int32) (v4 : Int32) (v5 : Int32), j_X2_hourOfFewest_43 T k_10 v1 v2 v3 v4 v5 = some x → G L Γ 0 0 (cells2 L o t q T) 43 [(0, .ref o), (1, .int v1), (2, .int v2), (3, .int v3), (4, .int v4), (5, .int v5)] [] := by
      intro v3 v4 v5 h
      unfold j_X2_hourOfFewest_43 at h
      refine g_iinc C 46 (1 : Int32) 5 [(5, .int (v5 + (1 : Int32))), (0, .ref o), (1, .int v1), (2, .int v2), (3, .int v3), (4, .int v4)] dX2_hourOfFewest_43 rfl rfl 7 hNL (by decide) rfl rfl ?_
      refine g_goto C 10 dX2_hourOfFewest_46 (by decide) ?_
      refine g_lv (lv' := [(0, .ref o), (1, .int v1), (2, .int v2), (3, .int v3), (4, .int v4), (5, .int (v5 + (1 : Int32)))]) [1, 2, 3, 4, 5, 0] rfl ?_
      exact hk_10 _ _ _ h
    intro v3 v4 v5 h
    unfold b_X2_hourOfFewest_10 at h
    refine g_iload C 12 5 dX2_hourOfFewest_10 rfl rfl ?_
    refine g_bipush C 14 (24 : Int32) dX2_hourOfFewest_12 rfl rfl ?_
    refine g_icmp_ge C 49 17 dX2_hourOfFewest_14 (by decide) rfl (fun c => ?_) (fun c => ?_)
    · have h := ifT c h
      refine g_iload C 51 4 dX2_hourOfFewest_49 rfl rfl ?_
      exact g_iret (st := []) C E dX2_hourOfFewest_51 (by obtain rfl := Option.some.inj h; exact ⟨rfl, rfl⟩)
    · have h := ifF c h
      refine g_aload_n C 18 0 dX2_hourOfFewest_17 rfl rfl ?_
      refine g_get (v := .ref t) C 21 2 0 0 hin_2 rfl rfl (by decide) wf_X2_9 rfl dX2_hourOfFewest_18 rfl ?_
      refine g_iload_n C 22 1 dX2_hourOfFewest_21 rfl rfl ?_
      refine g_iload_n C 23 2 dX2_hourOfFewest_22 rfl rfl ?_
      refine g_iload C 25 5 dX2_hourOfFewest_23 rfl rfl ?_
      refine bnd h (fun x1 e1 h => ?_)
      refine g_callVr C 28 [] [.int x1] (ct_X6_faultsOn L t q T v1 v2 v5 x1 e1) kX6_faultsOn kvX6_faultsOn wl_X2_43 6 0 rfl rfl rfl [1, 2, 3, 4, 5, 6, 7] rfl rfl rfl rfl rfl (Nat.le_of_ble_eq_true rfl) ⟨Nat.le_of_ble_eq_true rfl, Nat.le_of_ble_eq_true rfl⟩ ⟨Nat.zero_le _, Nat.zero_le _⟩ dX2_hourOfFewest_25 rfl ?_
      refine g_istore C 30 6 [(6, .int x1), (0, .ref o), (1, .int v1), (2, .int v2), (3, .int v3), (4, .int v4), (5, .int v5)] dX2_hourOfFewest_28 rfl 7 hNL (by decide) rfl ?_
      refine g_iload C 32 0 dX2_hourOfFewest_30 rfl rfl ?_
      refine g_iload_n C 33 4 dX2_hourOfFewest_32 rfl rfl ?_
      refine g_icmp_ge C 43 36 dX2_hourOfFewest_33 (by decide) rfl (fun c => ?_) (fun c => ?_)
      · have h := ifT c h
        refine g_lv (lv' := [(0, .ref o), (1, .int v1), (2, .int v2), (3, .int v3), (4, .int v4), (5, .int v5)]) [1, 2, 3, 4, 5, 6] rfl ?_
        exact J_43 _ _ _ h
      · have h := ifF c h
        refine g_iload C 38 0 dX2_hourOfFewest_36 rfl rfl ?_
        refine g_istore_n C 39 3 [(3, .int x1), (6, .int x1), (0, .ref o), (1, .int v1), (2, .int v2), (4, .int v4), (5, .int v5)] dX2_hourOfFewest_38 rfl rfl 7 hNL (by decide) rfl ?_
        refine g_iload C 41 6 dX2_hourOfFewest_39 rfl rfl ?_
        refine g_istore C 43 4 [(4, .int v5), (3, .int x1), (6, .int x1), (0, .ref o), (1, .int v1), (2, .int v2), (5, .int v5)] dX2_hourOfFewest_41 rfl 7 hNL (by decide) rfl ?_
        refine g_lv (lv' := [(0, .ref o), (1, .int v1), (2, .int v2), (3, .int x1), (4, .int v5), (5, .int v5)]) [3, 4, 5, 1, 0, 6] rfl ?_
        exact J_43 _ _ _ h
  unfold f_X2_hourOfFewest at h
  refine g_sipush C 3 (1000 : Int32) dX2_hourOfFewest_0 rfl rfl ?_
  refine g_istore_n C 4 3 [(3, .int (1000 : Int32)), (0, .ref o), (1, .int v1), (2, .int v2)] dX2_hourOfFewest_3 rfl rfl 7 hNL (by decide) rfl ?_
  refine g_iconst C 5 (0 : Int32) dX2_hourOfFewest_4 rfl rfl ?_
  refine g_istore C 7 4 [(4, .int (0 : Int32)), (3, .int (1000 : Int32)), (0, .ref o), (1, .int v1), (2, .int v2)] dX2_hourOfFewest_5 rfl 7 hNL (by decide) rfl ?_
  refine g_iconst C 8 (0 : Int32) dX2_hourOfFewest_7 rfl rfl ?_
  refine g_istore C 10 5 [(5, .int (0 : Int32)), (4, .int (0 : Int32)), (3, .int (1000 : Int32)), (0, .ref o), (1, .int v1), (2, .int v2)] dX2_hourOfFewest_8 rfl 7 hNL (by decide) rfl ?_
  refine g_lv (lv' := [(0, .ref o), (1, .int v1), (2, .int v2), (3, .int (1000 : Int32)), (4, .int (0 : Int32)), (5, .int (0 : Int32))]) [3, 4, 5, 2, 1, 0] rfl ?_
  exact J_10 _ _ _ _ _ _ h
set_option maxHeartbeats 4000000 in
set_option maxRecDepth 100000 in
theorem ct_X2_hoursPassed (L : LL) (o : Nat) (t : Nat) (q : Nat → Nat) (T : OS) (v1 : Int32) (v2 : Int32) (x : Int32) (h : f_X2_hoursPassed T v1 v2 = some x) : Ct L yX2_hoursPassed cX2_hoursPassed 5 (some .int) (rmk 4 0 0 95) 0 0 [.ref o, .int v1, .int v2] (cells2 L o t q T) (Pv (some (.int x)) (cells2 L o t q T)) := by
  refine g_enter (lv := [(0, .ref o), (1, .int v1), (2, .int v2)]) kX2_hoursPassed rfl rfl (Nat.le_of_ble_eq_true rfl) (fun Γ C E hNL => ?_)
  have J_5 : ∀ (n : Nat) (v1 : Int32) (v2 : Int32) (v3 : Int32) (v4 : Int32), Lp2 (b_X2_hoursPassed_5 T  v1 v2) n v3 v4 = some x → G L Γ 0 0 (cells2 L o t q T) 5 [(0, .ref o), (1, .int v1), (2, .int v2), (3, .int v3), (4, .int v4)] [] := by
    intro n v1 v2
    refine lp_ok2 (fun v3 v4 => G L Γ 0 0 (cells2 L o t q T) 5 [(0, .ref o), (1, .int v1), (2, .int v2), (3, .int v3), (4, .int v4)] []) (fun k_5 hk_5 => ?_) n
    have J_33 : ∀ (v3 : Int32) (v4 : Int32), j_X2_hoursPassed_33 T k_5 v1 v2 v3 v4 = some x → G L Γ 0 0 (cells2 L o t q T) 33 [(0, .ref o), (1, .int v1), (2, .int v2), (3, .int v3), (4, .int v4)] [] := by
      intro v3 v4 h
      unfold j_X2_hoursPassed_33 at h
      refine g_iinc C 36 (1 : Int32) 4 [(4, .int (v4 + (1 : Int32))), (0, .ref o), (1, .int v1), (2, .int v2), (3, .int v3)] dX2_hoursPassed_33 rfl rfl 5 hNL (by decide) rfl rfl ?_
      refine g_goto C 5 dX2_hoursPassed_36 (by decide) ?_
      refine g_lv (lv' := [(0, .ref o), (1, .int v1), (2, .int v2), (3, .int v3), (4, .int (v4 + (1 : Int32)))]) [1, 2, 3, 4, 0] rfl ?_
      exact hk_5 _ _ h
    intro v3 v4 h
    unfold b_X2_hoursPassed_5 at h
    refine g_iload C 7 4 dX2_hoursPassed_5 rfl rfl ?_
    refine g_bipush C 9 (24 : Int32) dX2_hoursPassed_7 rfl rfl ?_
    refine g_icmp_ge C 39 12 dX2_hoursPassed_9 (by decide) rfl (fun c => ?_) (fun c => ?_)
    · have h := ifT c h
      refine g_iload_n C 40 3 dX2_hoursPassed_39 rfl rfl ?_
      exact g_iret (st := []) C E dX2_hoursPassed_40 (by obtain rfl := Option.some.inj h; exact ⟨rfl, rfl⟩)
    · have h := ifF c h
      refine g_aload_n C 13 0 dX2_hoursPassed_12 rfl rfl ?_
      refine g_get (v := .ref t) C 16 2 0 0 hin_2 rfl rfl (by decide) wf_X2_9 rfl dX2_hoursPassed_13 rfl ?_
      refine g_iload_n C 17 1 dX2_hoursPassed_16 rfl rfl ?_
      refine g_iload_n C 18 2 dX2_hoursPassed_17 rfl rfl ?_
      refine g_iload C 20 4 dX2_hoursPassed_18 rfl rfl ?_
      refine bnd h (fun x1 e1 h => ?_)
      refine g_callVr C 23 [] [.int x1] (ct_X6_passes L t q T v1 v2 v4 x1 e1) kX6_passes kvX6_passes wl_X2_46 6 0 rfl rfl rfl [1, 2, 3, 4, 5, 6, 7] rfl rfl rfl rfl rfl (Nat.le_of_ble_eq_true rfl) ⟨Nat.le_of_ble_eq_true rfl, Nat.le_of_ble_eq_true rfl⟩ ⟨Nat.zero_le _, Nat.zero_le _⟩ dX2_hoursPassed_20 rfl ?_
      refine g_if_eq C 33 26 dX2_hoursPassed_23 (by decide) rfl (fun c => ?_) (fun c => ?_)
      · have h := ifT c h
        exact J_33 _ _ h
      · have h := ifF c h
        refine g_iload_n C 27 3 dX2_hoursPassed_26 rfl rfl ?_
        refine g_iconst C 28 (1 : Int32) dX2_hoursPassed_27 rfl rfl ?_
        refine g_iload C 30 4 dX2_hoursPassed_28 rfl rfl ?_
        refine g_ishl C 31 dX2_hoursPassed_30 rfl ?_
        refine g_ior C 32 dX2_hoursPassed_31 rfl ?_
        refine g_istore_n C 33 3 [(3, .int (v3 ||| ((1 : Int32) <<< (v4 &&& 31)))), (0, .ref o), (1, .int v1), (2, .int v2), (4, .int v4)] dX2_hoursPassed_32 rfl rfl 5 hNL (by decide) rfl ?_
        refine g_lv (lv' := [(0, .ref o), (1, .int v1), (2, .int v2), (3, .int (v3 ||| ((1 : Int32) <<< (v4 &&& 31)))), (4, .int v4)]) [1, 2, 3, 0, 4] rfl ?_
        exact J_33 _ _ h
  unfold f_X2_hoursPassed at h
  refine g_iconst C 1 (0 : Int32) dX2_hoursPassed_0 rfl rfl ?_
  refine g_istore_n C 2 3 [(3, .int (0 : Int32)), (0, .ref o), (1, .int v1), (2, .int v2)] dX2_hoursPassed_1 rfl rfl 5 hNL (by decide) rfl ?_
  refine g_iconst C 3 (0 : Int32) dX2_hoursPassed_2 rfl rfl ?_
  refine g_istore C 5 4 [(4, .int (0 : Int32)), (3, .int (0 : Int32)), (0, .ref o), (1, .int v1), (2, .int v2)] dX2_hoursPassed_3 rfl 5 hNL (by decide) rfl ?_
  refine g_lv (lv' := [(0, .ref o), (1, .int v1), (2, .int v2), (3, .int (0 : Int32)), (4, .int (0 : Int32))]) [2, 3, 4, 1, 0] rfl ?_
  exact J_5 _ _ _ _ _ h
set_option maxHeartbeats 4000000 in
set_option maxRecDepth 100000 in
theorem ct_X2_wayOfFewest (L : LL) (o : Nat) (t : Nat) (q : Nat → Nat) (T : OS) (v1 : Int32) (v2 : Int32) (x : Int32) (h : f_X2_wayOfFewest T v1 v2 = some x) : Ct L yX2_wayOfFewest cX2_wayOfFewest 7 (some .int) (rmk 4 0 0 94) 0 0 [.ref o, .int v1, .int v2] (cells2 L o t q T) (Pv (some (.int x)) (cells2 L o t q T)) := by
  refine g_enter (lv := [(0, .ref o), (1, .int v1), (2, .int v2)]) kX2_wayOfFewest rfl rfl (Nat.le_of_ble_eq_true rfl) (fun Γ C E hNL => ?_)
  have J_11 : ∀ (n : Nat) (v1 : Int32) (v2 : Int32) (v3 : Int32) (v4 : Int32) (v5 : Int32), Lp3 (b_X2_wayOfFewest_11 T  v1 v2) n v3 v4 v5 = some x → G L Γ 0 0 (cells2 L o t q T) 11 [(0, .ref o), (1, .int v1), (2, .int v2), (3, .int v3), (4, .int v4), (5, .int v5)] [] := by
    intro n v1 v2
    refine lp_ok3 (fun v3 v4 v5 => G L Γ 0 0 (cells2 L o t q T) 11 [(0, .ref o), (1, .int v1), (2, .int v2), (3, .int v3), (4, .int v4), (5, .int v5)] []) (fun k_11 hk_11 => ?_) n
    have J_49 : ∀ (v3 : Int32) (v4 : Int32) (v5 : Int32), j_X2_wayOfFewest_49 T k_11 v1 v2 v3 v4 v5 = some x → G L Γ 0 0 (cells2 L o t q T) 49 [(0, .ref o), (1, .int v1), (2, .int v2), (3, .int v3), (4, .int v4), (5, .int v5)] [] := by
      intro v3 v4 v5 h
      unfold j_X2_wayOfFewest_49 at h
      refine g_iinc C 52 (1 : Int32) 5 [(5, .int (v5 + (1 : Int32))), (0, .ref o), (1, .int v1), (2, .int v2), (3, .int v3), (4, .int v4)] dX2_wayOfFewest_49 rfl rfl 7 hNL (by decide) rfl rfl ?_
      refine g_goto C 11 dX2_wayOfFewest_52 (by decide) ?_
      refine g_lv (lv' := [(0, .ref o), (1, .int v1), (2, .int v2), (3, .int v3), (4, .int v4), (5, .int (v5 + (1 : Int32)))]) [1, 2, 3, 4, 5, 0] rfl ?_
      exact hk_11 _ _ _ h
    intro v3 v4 v5 h
    unfold b_X2_wayOfFewest_11 at h
    refine g_iload C 13 5 dX2_wayOfFewest_11 rfl rfl ?_
    refine g_aload_n C 14 0 dX2_wayOfFewest_13 rfl rfl ?_
    refine g_get (v := .ref t) C 17 2 0 0 hin_2 rfl rfl (by decide) wf_X2_9 rfl dX2_wayOfFewest_14 rfl ?_
    refine g_get (v := .int (T.1 1)) C 20 6 1 1 hin_6 rfl rfl (by decide) wf_X2_50 rfl dX2_wayOfFewest_17 rfl ?_
    refine g_icmp_ge C 55 23 dX2_wayOfFewest_20 (by decide) rfl (fun c => ?_) (fun c => ?_)
    · have h := ifT c h
      refine g_iload C 57 4 dX2_wayOfFewest_55 rfl rfl ?_
      exact g_iret (st := []) C E dX2_wayOfFewest_57 (by obtain rfl := Option.some.inj h; exact ⟨rfl, rfl⟩)
    · have h := ifF c h
      refine g_aload_n C 24 0 dX2_wayOfFewest_23 rfl rfl ?_
      refine g_get (v := .ref t) C 27 2 0 0 hin_2 rfl rfl (by decide) wf_X2_9 rfl dX2_wayOfFewest_24 rfl ?_
      refine g_iload_n C 28 1 dX2_wayOfFewest_27 rfl rfl ?_
      refine g_iload C 30 5 dX2_wayOfFewest_28 rfl rfl ?_
      refine g_iload_n C 31 2 dX2_wayOfFewest_30 rfl rfl ?_
      refine bnd h (fun x1 e1 h => ?_)
      refine g_callVr C 34 [] [.int x1] (ct_X6_faultsOn L t q T v1 v5 v2 x1 e1) kX6_faultsOn kvX6_faultsOn wl_X2_43 6 0 rfl rfl rfl [1, 2, 3, 4, 5, 6, 7] rfl rfl rfl rfl rfl (Nat.le_of_ble_eq_true rfl) ⟨Nat.le_of_ble_eq_true rfl, Nat.le_of_ble_eq_true rfl⟩ ⟨Nat.zero_le _, Nat.zero_le _⟩ dX2_wayOfFewest_31 rfl ?_
      refine g_istore C 36 6 [(6, .int x1), (0, .ref o), (1, .int v1), (2, .int v2), (3, .int v3), (4, .int v4), (5, .int v5)] dX2_wayOfFewest_34 rfl 7 hNL (by decide) rfl ?_
      refine g_iload C 38 0 dX2_wayOfFewest_36 rfl rfl ?_
      refine g_iload_n C 39 4 dX2_wayOfFewest_38 rfl rfl ?_
      refine g_icmp_ge C 49 42 dX2_wayOfFewest_39 (by decide) rfl (fun c => ?_) (fun c => ?_)
      · have h := ifT c h
        refine g_lv (lv' := [(0, .ref o), (1, .int v1), (2, .int v2), (3, .int v3), (4, .int v4), (5, .int v5)]) [1, 2, 3, 4, 5, 6] rfl ?_
        exact J_49 _ _ _ h
      · have h := ifF c h
        refine g_iload C 44 0 dX2_wayOfFewest_42 rfl rfl ?_
        refine g_istore_n C 45 3 [(3, .int x1), (6, .int x1), (0, .ref o), (1, .int v1), (2, .int v2), (4, .int v4), (5, .int v5)] dX2_wayOfFewest_44 rfl rfl 7 hNL (by decide) rfl ?_
        refine g_iload C 47 6 dX2_wayOfFewest_45 rfl rfl ?_
        refine g_istore C 49 4 [(4, .int v5), (3, .int x1), (6, .int x1), (0, .ref o), (1, .int v1), (2, .int v2), (5, .int v5)] dX2_wayOfFewest_47 rfl 7 hNL (by decide) rfl ?_
        refine g_lv (lv' := [(0, .ref o), (1, .int v1), (2, .int v2), (3, .int x1), (4, .int v5), (5, .int v5)]) [3, 4, 5, 1, 0, 6] rfl ?_
        exact J_49 _ _ _ h
  unfold f_X2_wayOfFewest at h
  refine g_sipush C 3 (1000 : Int32) dX2_wayOfFewest_0 rfl rfl ?_
  refine g_istore_n C 4 3 [(3, .int (1000 : Int32)), (0, .ref o), (1, .int v1), (2, .int v2)] dX2_wayOfFewest_3 rfl rfl 7 hNL (by decide) rfl ?_
  refine g_bipush C 6 (-9 : Int32) dX2_wayOfFewest_4 rfl rfl ?_
  refine g_istore C 8 4 [(4, .int (-9 : Int32)), (3, .int (1000 : Int32)), (0, .ref o), (1, .int v1), (2, .int v2)] dX2_wayOfFewest_6 rfl 7 hNL (by decide) rfl ?_
  refine g_iconst C 9 (0 : Int32) dX2_wayOfFewest_8 rfl rfl ?_
  refine g_istore C 11 5 [(5, .int (0 : Int32)), (4, .int (-9 : Int32)), (3, .int (1000 : Int32)), (0, .ref o), (1, .int v1), (2, .int v2)] dX2_wayOfFewest_9 rfl 7 hNL (by decide) rfl ?_
  refine g_lv (lv' := [(0, .ref o), (1, .int v1), (2, .int v2), (3, .int (1000 : Int32)), (4, .int (-9 : Int32)), (5, .int (0 : Int32))]) [3, 4, 5, 2, 1, 0] rfl ?_
  exact J_11 _ _ _ _ _ _ h
set_option maxHeartbeats 4000000 in
set_option maxRecDepth 100000 in
theorem ct_X2_passesAll (L : LL) (o : Nat) (t : Nat) (q : Nat → Nat) (T : OS) (v1 : Int32) (v2 : Int32) (v3 : Int32) (v4 : Int32) (x : Int32) (h : f_X2_passesAll T v1 v2 v3 v4 = some x) : Ct L yX2_passesAll cX2_passesAll 6 (some .boolean) (rmk 3 0 0 72) 0 0 [.ref o, .int v1, .int v2, .int v3, .int v4] (cells2 L o t q T) (Pv (some (.int x)) (cells2 L o t q T)) := by
  refine g_enter (lv := [(0, .ref o), (1, .int v1), (2, .int v2), (3, .int v3), (4, .int v4)]) kX2_passesAll rfl rfl (Nat.le_of_ble_eq_true rfl) (fun Γ C E hNL => ?_)
  have J_3 : ∀ (n : Nat) (v1 : Int32) (v2 : Int32) (v3 : Int32) (v4 : Int32) (v5 : Int32), Lp1 (b_X2_passesAll_3 T  v1 v2 v3 v4) n v5 = some x → G L Γ 0 0 (cells2 L o t q T) 3 [(0, .ref o), (1, .int v1), (2, .int v2), (3, .int v3), (4, .int v4), (5, .int v5)] [] := by
    intro n v1 v2 v3 v4
    refine lp_ok1 (fun v5 => G L Γ 0 0 (cells2 L o t q T) 3 [(0, .ref o), (1, .int v1), (2, .int v2), (3, .int v3), (4, .int v4), (5, .int v5)] []) (fun k_3 hk_3 => ?_) n
    have J_53 : ∀ (v5 : Int32), j_X2_passesAll_53 T k_3 v1 v2 v3 v4 v5 = some x → G L Γ 0 0 (cells2 L o t q T) 53 [(0, .ref o), (1, .int v1), (2, .int v2), (3, .int v3), (4, .int v4), (5, .int v5)] [] := by
      intro v5 h
      unfold j_X2_passesAll_53 at h
      refine g_iinc C 56 (1 : Int32) 5 [(5, .int (v5 + (1 : Int32))), (0, .ref o), (1, .int v1), (2, .int v2), (3, .int v3), (4, .int v4)] dX2_passesAll_53 rfl rfl 6 hNL (by decide) rfl rfl ?_
      refine g_goto C 3 dX2_passesAll_56 (by decide) ?_
      refine g_lv (lv' := [(0, .ref o), (1, .int v1), (2, .int v2), (3, .int v3), (4, .int v4), (5, .int (v5 + (1 : Int32)))]) [1, 2, 3, 4, 5, 0] rfl ?_
      exact hk_3 _ h
    intro v5 h
    unfold b_X2_passesAll_3 at h
    refine g_iload C 5 5 dX2_passesAll_3 rfl rfl ?_
    refine g_aload_n C 6 0 dX2_passesAll_5 rfl rfl ?_
    refine g_get (v := .ref t) C 9 2 0 0 hin_2 rfl rfl (by decide) wf_X2_9 rfl dX2_passesAll_6 rfl ?_
    refine g_get (v := .int (T.1 1)) C 12 6 1 1 hin_6 rfl rfl (by decide) wf_X2_50 rfl dX2_passesAll_9 rfl ?_
    refine g_icmp_ge C 59 15 dX2_passesAll_12 (by decide) rfl (fun c => ?_) (fun c => ?_)
    · have h := ifT c h
      refine g_iconst C 60 (1 : Int32) dX2_passesAll_59 rfl rfl ?_
      exact g_zret (st := []) C E dX2_passesAll_60 rfl (by obtain rfl := Option.some.inj h; exact ⟨rfl, rfl⟩)
    · have h := ifF c h
      refine g_iload_n C 16 2 dX2_passesAll_15 rfl rfl ?_
      refine g_iload C 18 5 dX2_passesAll_16 rfl rfl ?_
      refine bnd h (fun x1 e1 h => ?_)
      refine g_callNr C 21 [] [.int x1] (ct_X7_has L v2 v5 x1 e1) kX7_has kvX7_has wn_X2_35 [] rfl rfl rfl rfl rfl (Nat.le_of_ble_eq_true rfl) ⟨Nat.le_of_ble_eq_true rfl, Nat.le_of_ble_eq_true rfl⟩ ⟨Nat.zero_le _, Nat.zero_le _⟩ dX2_passesAll_18 rfl ?_
      refine g_if_eq C 53 24 dX2_passesAll_21 (by decide) rfl (fun c => ?_) (fun c => ?_)
      · have h := ifT c h
        exact J_53 _ h
      · have h := ifF c h
        refine g_aload_n C 25 0 dX2_passesAll_24 rfl rfl ?_
        refine g_get (v := .ref t) C 28 2 0 0 hin_2 rfl rfl (by decide) wf_X2_9 rfl dX2_passesAll_25 rfl ?_
        refine g_iload C 30 5 dX2_passesAll_28 rfl rfl ?_
        refine g_aload_n C 31 0 dX2_passesAll_30 rfl rfl ?_
        refine g_iload_n C 32 1 dX2_passesAll_31 rfl rfl ?_
        refine bnd h (fun x2 e2 h => ?_)
        refine g_callVr C 35 [.int v5, .ref t] [.int x2, .int v5, .ref t] (ct_X2_skillOf L o t q T v1 x2 e2) kX2_skillOf kvX2_skillOf wl_X2_69 2 0 rfl rfl rfl [0, 1, 2, 3, 4, 5, 6, 7] rfl rfl rfl rfl rfl (Nat.le_of_ble_eq_true rfl) ⟨Nat.le_of_ble_eq_true rfl, Nat.le_of_ble_eq_true rfl⟩ ⟨Nat.zero_le _, Nat.zero_le _⟩ dX2_passesAll_32 rfl ?_
        refine g_iload_n C 36 3 dX2_passesAll_35 rfl rfl ?_
        refine g_iload C 38 4 dX2_passesAll_36 rfl rfl ?_
        refine bnd h (fun x3 e3 h => ?_)
        refine g_callVr C 41 [] [.int x3] (ct_X6_limitToPass L t q T v5 x2 v3 v4 x3 e3) kX6_limitToPass kvX6_limitToPass wl_X2_71 6 0 rfl rfl rfl [1, 2, 3, 4, 5, 6, 7] rfl rfl rfl rfl rfl (Nat.le_of_ble_eq_true rfl) ⟨Nat.le_of_ble_eq_true rfl, Nat.le_of_ble_eq_true rfl⟩ ⟨Nat.zero_le _, Nat.zero_le _⟩ dX2_passesAll_38 rfl ?_
        refine g_aload_n C 42 0 dX2_passesAll_41 rfl rfl ?_
        refine g_get (v := .ref t) C 45 2 0 0 hin_2 rfl rfl (by decide) wf_X2_9 rfl dX2_passesAll_42 rfl ?_
        refine g_get (v := .int (T.1 4)) C 48 6 1 4 hin_6 rfl rfl (by decide) wf_X2_75 rfl dX2_passesAll_45 rfl ?_
        refine g_icmp_le C 53 51 dX2_passesAll_48 (by decide) rfl (fun c => ?_) (fun c => ?_)
        · have h := ifT c h
          exact J_53 _ h
        · have h := ifF c h
          refine g_iconst C 52 (0 : Int32) dX2_passesAll_51 rfl rfl ?_
          exact g_zret (st := []) C E dX2_passesAll_52 rfl (by obtain rfl := Option.some.inj h; exact ⟨rfl, rfl⟩)
  unfold f_X2_passesAll at h
  refine g_iconst C 1 (0 : Int32) dX2_passesAll_0 rfl rfl ?_
  refine g_istore C 3 5 [(5, .int (0 : Int32)), (0, .ref o), (1, .int v1), (2, .int v2), (3, .int v3), (4, .int v4)] dX2_passesAll_1 rfl 6 hNL (by decide) rfl ?_
  refine g_lv (lv' := [(0, .ref o), (1, .int v1), (2, .int v2), (3, .int v3), (4, .int v4), (5, .int (0 : Int32))]) [1, 2, 3, 4, 5, 0] rfl ?_
  exact J_3 _ _ _ _ _ _ h
set_option maxHeartbeats 4000000 in
set_option maxRecDepth 100000 in
theorem ct_X2_toLearn (L : LL) (o : Nat) (t : Nat) (q : Nat → Nat) (T : OS) (v1 : Int32) (v2 : Int32) (v3 : Int32) (x : Int32) (h : f_X2_toLearn T v1 v2 v3 = some x) : Ct L yX2_toLearn cX2_toLearn 9 (some .int) (rmk 4 0 0 97) 0 0 [.ref o, .int v1, .int v2, .int v3] (cells2 L o t q T) (Pv (some (.int x)) (cells2 L o t q T)) := by
  refine g_enter (lv := [(0, .ref o), (1, .int v1), (2, .int v2), (3, .int v3)]) kX2_toLearn rfl rfl (Nat.le_of_ble_eq_true rfl) (fun Γ C E hNL => ?_)
  have J_19 : ∀ (n : Nat) (v1 : Int32) (v2 : Int32) (v3 : Int32) (v4 : Int32) (v5 : Int32) (v6 : Int32) (v7 : Int32), Lp3 (b_X2_toLearn_19 T  v1 v2 v3 v4) n v5 v6 v7 = some x → G L Γ 0 0 (cells2 L o t q T) 19 [(0, .ref o), (1, .int v1), (2, .int v2), (3, .int v3), (4, .int v4), (5, .int v5), (6, .int v6), (7, .int v7)] [] := by
    intro n v1 v2 v3 v4
    refine lp_ok3 (fun v5 v6 v7 => G L Γ 0 0 (cells2 L o t q T) 19 [(0, .ref o), (1, .int v1), (2, .int v2), (3, .int v3), (4, .int v4), (5, .int v5), (6, .int v6), (7, .int v7)] []) (fun k_19 hk_19 => ?_) n
    have J_76 : ∀ (v5 : Int32) (v6 : Int32) (v7 : Int32), j_X2_toLearn_76 T k_19 v1 v2 v3 v4 v5 v6 v7 = some x → G L Γ 0 0 (cells2 L o t q T) 76 [(0, .ref o), (1, .int v1), (2, .int v2), (3, .int v3), (4, .int v4), (5, .int v5), (6, .int v6), (7, .int v7)] [] := by
      intro v5 v6 v7 h
      unfold j_X2_toLearn_76 at h
      refine g_iinc C 79 (1 : Int32) 7 [(7, .int (v7 + (1 : Int32))), (0, .ref o), (1, .int v1), (2, .int v2), (3, .int v3), (4, .int v4), (5, .int v5), (6, .int v6)] dX2_toLearn_76 rfl rfl 9 hNL (by decide) rfl rfl ?_
      refine g_goto C 19 dX2_toLearn_79 (by decide) ?_
      refine g_lv (lv' := [(0, .ref o), (1, .int v1), (2, .int v2), (3, .int v3), (4, .int v4), (5, .int v5), (6, .int v6), (7, .int (v7 + (1 : Int32)))]) [1, 2, 3, 4, 5, 6, 7, 0] rfl ?_
      exact hk_19 _ _ _ h
    intro v5 v6 v7 h
    unfold b_X2_toLearn_19 at h
    refine g_iload C 21 7 dX2_toLearn_19 rfl rfl ?_
    refine g_aload_n C 22 0 dX2_toLearn_21 rfl rfl ?_
    refine g_get (v := .ref t) C 25 2 0 0 hin_2 rfl rfl (by decide) wf_X2_9 rfl dX2_toLearn_22 rfl ?_
    refine bnd h (fun x2 e2 h => ?_)
    refine g_callVr C 28 [.int v7] [.int x2, .int v7] (ct_X6_allStreets L t q T x2 e2) kX6_allStreets kvX6_allStreets wl_X2_56 6 0 rfl rfl rfl [1, 2, 3, 4, 5, 6, 7] rfl rfl rfl rfl rfl (Nat.le_of_ble_eq_true rfl) ⟨Nat.le_of_ble_eq_true rfl, Nat.le_of_ble_eq_true rfl⟩ ⟨Nat.zero_le _, Nat.zero_le _⟩ dX2_toLearn_25 rfl ?_
    refine g_icmp_gt C 82 31 dX2_toLearn_28 (by decide) rfl (fun c => ?_) (fun c => ?_)
    · have h := ifT c h
      refine g_iload C 84 6 dX2_toLearn_82 rfl rfl ?_
      exact g_iret (st := []) C E dX2_toLearn_84 (by obtain rfl := Option.some.inj h; exact ⟨rfl, rfl⟩)
    · have h := ifF c h
      refine g_iload C 33 7 dX2_toLearn_31 rfl rfl ?_
      refine bnd h (fun x3 e3 h => ?_)
      refine g_callSr C 36 [] [.int x3] (ct_J6_bitCount_0f7a4 L v7 x3 e3) kJ6_bitCount_0f7a4 kvJ6_bitCount_0f7a4 wl_X2_60 [] rfl rfl rfl rfl rfl (Nat.le_of_ble_eq_true rfl) ⟨Nat.le_of_ble_eq_true rfl, Nat.le_of_ble_eq_true rfl⟩ ⟨Nat.zero_le _, Nat.zero_le _⟩ dX2_toLearn_33 rfl ?_
      refine g_istore C 38 8 [(8, .int x3), (0, .ref o), (1, .int v1), (2, .int v2), (3, .int v3), (4, .int v4), (5, .int v5), (6, .int v6), (7, .int v7)] dX2_toLearn_36 rfl 9 hNL (by decide) rfl ?_
      refine g_iload C 40 8 dX2_toLearn_38 rfl rfl ?_
      refine g_iload C 42 5 dX2_toLearn_40 rfl rfl ?_
      refine g_iand C 43 dX2_toLearn_42 rfl ?_
      refine g_if_ne C 76 46 dX2_toLearn_43 (by decide) rfl (fun c => ?_) (fun c => ?_)
      · have h := ifF c h
        refine g_lv (lv' := [(0, .ref o), (1, .int v1), (2, .int v2), (3, .int v3), (4, .int v4), (5, .int v5), (6, .int v6), (7, .int v7)]) [1, 2, 3, 4, 5, 6, 7, 8] rfl ?_
        exact J_76 _ _ _ h
      · have h := ifT c h
        refine g_iload C 48 0 dX2_toLearn_46 rfl rfl ?_
        refine g_iload C 50 6 dX2_toLearn_48 rfl rfl ?_
        refine g_icmp_ge C 76 53 dX2_toLearn_50 (by decide) rfl (fun c => ?_) (fun c => ?_)
        · have h := ifT c h
          refine g_lv (lv' := [(0, .ref o), (1, .int v1), (2, .int v2), (3, .int v3), (4, .int v4), (5, .int v5), (6, .int v6), (7, .int v7)]) [1, 2, 3, 4, 5, 6, 7, 8] rfl ?_
          exact J_76 _ _ _ h
        · have h := ifF c h
          refine g_aload_n C 54 1 dX2_toLearn_53 rfl rfl ?_
          refine g_iload_n C 55 2 dX2_toLearn_54 rfl rfl ?_
          refine g_iload_n C 56 3 dX2_toLearn_55 rfl rfl ?_
          refine g_iload C 58 5 dX2_toLearn_56 rfl rfl ?_
          refine g_iload C 60 8 dX2_toLearn_58 rfl rfl ?_
          refine g_ior C 61 dX2_toLearn_60 rfl ?_
          refine g_iload_n C 62 4 dX2_toLearn_61 rfl rfl ?_
          refine bnd h (fun x4 e4 h => ?_)
          refine g_callVr C 65 [] [.int x4] (ct_X2_passesAll L o t q T v1 v2 (v4 ||| v7) v3 x4 e4) kX2_passesAll kvX2_passesAll wl_X2_65 2 0 rfl rfl rfl [0, 1, 2, 3, 4, 5, 6, 7] rfl rfl rfl rfl rfl (Nat.le_of_ble_eq_true rfl) ⟨Nat.le_of_ble_eq_true rfl, Nat.le_of_ble_eq_true rfl⟩ ⟨Nat.zero_le _, Nat.zero_le _⟩ dX2_toLearn_62 rfl ?_
          refine g_if_eq C 76 68 dX2_toLearn_65 (by decide) rfl (fun c => ?_) (fun c => ?_)
          · have h := ifT c h
            refine g_lv (lv' := [(0, .ref o), (1, .int v1), (2, .int v2), (3, .int v3), (4, .int v4), (5, .int v5), (6, .int v6), (7, .int v7)]) [1, 2, 3, 4, 5, 6, 7, 8] rfl ?_
            exact J_76 _ _ _ h
          · have h := ifF c h
            refine g_iload C 70 0 dX2_toLearn_68 rfl rfl ?_
            refine g_istore C 72 5 [(5, .int x3), (8, .int x3), (0, .ref o), (1, .int v1), (2, .int v2), (3, .int v3), (4, .int v4), (6, .int v6), (7, .int v7)] dX2_toLearn_70 rfl 9 hNL (by decide) rfl ?_
            refine g_iload C 74 8 dX2_toLearn_72 rfl rfl ?_
            refine g_istore C 76 6 [(6, .int v7), (5, .int x3), (8, .int x3), (0, .ref o), (1, .int v1), (2, .int v2), (3, .int v3), (4, .int v4), (7, .int v7)] dX2_toLearn_74 rfl 9 hNL (by decide) rfl ?_
            refine g_lv (lv' := [(0, .ref o), (1, .int v1), (2, .int v2), (3, .int v3), (4, .int v4), (5, .int x3), (6, .int v7), (7, .int v7)]) [3, 4, 5, 6, 7, 1, 0, 8] rfl ?_
            exact J_76 _ _ _ h
  unfold f_X2_toLearn at h
  refine g_aload_n C 1 0 dX2_toLearn_0 rfl rfl ?_
  refine g_iload_n C 2 1 dX2_toLearn_1 rfl rfl ?_
  refine bnd h (fun x1 e1 h => ?_)
  refine g_callVr C 5 [] [.int x1] (ct_X2_knownOf L o t q T v1 x1 e1) kX2_knownOf kvX2_knownOf wl_X2_53 2 0 rfl rfl rfl [0, 1, 2, 3, 4, 5, 6, 7] rfl rfl rfl rfl rfl (Nat.le_of_ble_eq_true rfl) ⟨Nat.le_of_ble_eq_true rfl, Nat.le_of_ble_eq_true rfl⟩ ⟨Nat.zero_le _, Nat.zero_le _⟩ dX2_toLearn_2 rfl ?_
  refine g_istore C 7 4 [(4, .int x1), (0, .ref o), (1, .int v1), (2, .int v2), (3, .int v3)] dX2_toLearn_5 rfl 9 hNL (by decide) rfl ?_
  refine g_sipush C 10 (1000 : Int32) dX2_toLearn_7 rfl rfl ?_
  refine g_istore C 12 5 [(5, .int (1000 : Int32)), (4, .int x1), (0, .ref o), (1, .int v1), (2, .int v2), (3, .int v3)] dX2_toLearn_10 rfl 9 hNL (by decide) rfl ?_
  refine g_bipush C 14 (-9 : Int32) dX2_toLearn_12 rfl rfl ?_
  refine g_istore C 16 6 [(6, .int (-9 : Int32)), (5, .int (1000 : Int32)), (4, .int x1), (0, .ref o), (1, .int v1), (2, .int v2), (3, .int v3)] dX2_toLearn_14 rfl 9 hNL (by decide) rfl ?_
  refine g_iconst C 17 (0 : Int32) dX2_toLearn_16 rfl rfl ?_
  refine g_istore C 19 7 [(7, .int (0 : Int32)), (6, .int (-9 : Int32)), (5, .int (1000 : Int32)), (4, .int x1), (0, .ref o), (1, .int v1), (2, .int v2), (3, .int v3)] dX2_toLearn_17 rfl 9 hNL (by decide) rfl ?_
  refine g_lv (lv' := [(0, .ref o), (1, .int v1), (2, .int v2), (3, .int v3), (4, .int x1), (5, .int (1000 : Int32)), (6, .int (-9 : Int32)), (7, .int (0 : Int32))]) [4, 5, 6, 7, 3, 2, 1, 0] rfl ?_
  exact J_19 _ _ _ _ _ _ _ _ h
set_option maxHeartbeats 4000000 in
set_option maxRecDepth 100000 in
theorem ct_X2_lessonsToPass (L : LL) (o : Nat) (t : Nat) (q : Nat → Nat) (T : OS) (v1 : Int32) (v2 : Int32) (v3 : Int32) (x : Int32) (h : f_X2_lessonsToPass T v1 v2 v3 = some x) : Ct L yX2_lessonsToPass cX2_lessonsToPass 8 (some .int) (rmk 3 0 0 72) 0 0 [.ref o, .int v1, .int v2, .int v3] (cells2 L o t q T) (Pv (some (.int x)) (cells2 L o t q T)) := by
  refine g_enter (lv := [(0, .ref o), (1, .int v1), (2, .int v2), (3, .int v3)]) kX2_lessonsToPass rfl rfl (Nat.le_of_ble_eq_true rfl) (fun Γ C E hNL => ?_)
  have J_60 : ∀ (n : Nat) (v1 : Int32) (v2 : Int32) (v3 : Int32) (v5 : Int32) (v4 : Int32) (v6 : Int32) (v7 : Int32), Lp3 (b_X2_lessonsToPass_60 T  v1 v2 v3 v5) n v4 v6 v7 = some x → G L Γ 0 0 (cells2 L o t q T) 60 [(0, .ref o), (1, .int v1), (2, .int v2), (3, .int v3), (4, .int v4), (5, .int v5), (6, .int v6), (7, .int v7)] [] := by
    intro n v1 v2 v3 v5
    refine lp_ok3 (fun v4 v6 v7 => G L Γ 0 0 (cells2 L o t q T) 60 [(0, .ref o), (1, .int v1), (2, .int v2), (3, .int v3), (4, .int v4), (5, .int v5), (6, .int v6), (7, .int v7)] []) (fun k_60 hk_60 => ?_) n
    have J_123 : ∀ (v4 : Int32) (v6 : Int32) (v7 : Int32), j_X2_lessonsToPass_123 T k_60 v1 v2 v3 v4 v5 v6 v7 = some x → G L Γ 0 0 (cells2 L o t q T) 123 [(0, .ref o), (1, .int v1), (2, .int v2), (3, .int v3), (4, .int v4), (5, .int v5), (6, .int v6), (7, .int v7)] [] := by
      intro v4 v6 v7 h
      unfold j_X2_lessonsToPass_123 at h
      refine g_iinc C 126 (1 : Int32) 7 [(7, .int (v7 + (1 : Int32))), (0, .ref o), (1, .int v1), (2, .int v2), (3, .int v3), (4, .int v4), (5, .int v5), (6, .int v6)] dX2_lessonsToPass_123 rfl rfl 8 hNL (by decide) rfl rfl ?_
      refine g_goto C 60 dX2_lessonsToPass_126 (by decide) ?_
      refine g_lv (lv' := [(0, .ref o), (1, .int v1), (2, .int v2), (3, .int v3), (4, .int v4), (5, .int v5), (6, .int v6), (7, .int (v7 + (1 : Int32)))]) [1, 2, 3, 4, 5, 6, 7, 0] rfl ?_
      exact hk_60 _ _ _ h
    intro v4 v6 v7 h
    unfold b_X2_lessonsToPass_60 at h
    refine g_iload C 62 7 dX2_lessonsToPass_60 rfl rfl ?_
    refine g_aload_n C 63 0 dX2_lessonsToPass_62 rfl rfl ?_
    refine g_get (v := .ref t) C 66 2 0 0 hin_2 rfl rfl (by decide) wf_X2_9 rfl dX2_lessonsToPass_63 rfl ?_
    refine g_get (v := .int (T.1 0)) C 69 6 1 0 hin_6 rfl rfl (by decide) wf_X2_31 rfl dX2_lessonsToPass_66 rfl ?_
    refine g_icmp_ge C 129 72 dX2_lessonsToPass_69 (by decide) rfl (fun c => ?_) (fun c => ?_)
    · have h := ifT c h
      refine g_bipush C 131 (-9 : Int32) dX2_lessonsToPass_129 rfl rfl ?_
      exact g_iret (st := []) C E dX2_lessonsToPass_131 (by obtain rfl := Option.some.inj h; exact ⟨rfl, rfl⟩)
    · have h := ifF c h
      refine g_iload C 74 5 dX2_lessonsToPass_72 rfl rfl ?_
      refine g_iload C 76 7 dX2_lessonsToPass_74 rfl rfl ?_
      refine bnd h (fun x5 e5 h => ?_)
      refine g_callNr C 79 [] [.int x5] (ct_X7_has L v5 v7 x5 e5) kX7_has kvX7_has wn_X2_35 [] rfl rfl rfl rfl rfl (Nat.le_of_ble_eq_true rfl) ⟨Nat.le_of_ble_eq_true rfl, Nat.le_of_ble_eq_true rfl⟩ ⟨Nat.zero_le _, Nat.zero_le _⟩ dX2_lessonsToPass_76 rfl ?_
      refine g_if_eq C 123 82 dX2_lessonsToPass_79 (by decide) rfl (fun c => ?_) (fun c => ?_)
      · have h := ifT c h
        exact J_123 _ _ _ h
      · have h := ifF c h
        refine g_iload C 84 4 dX2_lessonsToPass_82 rfl rfl ?_
        refine g_iconst C 85 (1 : Int32) dX2_lessonsToPass_84 rfl rfl ?_
        refine g_iload C 87 7 dX2_lessonsToPass_85 rfl rfl ?_
        refine g_ishl C 88 dX2_lessonsToPass_87 rfl ?_
        refine g_ior C 89 dX2_lessonsToPass_88 rfl ?_
        refine g_istore C 91 4 [(4, .int (v4 ||| ((1 : Int32) <<< (v7 &&& 31)))), (0, .ref o), (1, .int v1), (2, .int v2), (3, .int v3), (5, .int v5), (6, .int v6), (7, .int v7)] dX2_lessonsToPass_89 rfl 8 hNL (by decide) rfl ?_
        refine g_iinc C 94 (1 : Int32) 6 [(6, .int (v6 + (1 : Int32))), (4, .int (v4 ||| ((1 : Int32) <<< (v7 &&& 31)))), (0, .ref o), (1, .int v1), (2, .int v2), (3, .int v3), (5, .int v5), (7, .int v7)] dX2_lessonsToPass_91 rfl rfl 8 hNL (by decide) rfl rfl ?_
        refine g_aload_n C 95 2 dX2_lessonsToPass_94 rfl rfl ?_
        refine g_get (v := .ref t) C 98 2 0 0 hin_2 rfl rfl (by decide) wf_X2_9 rfl dX2_lessonsToPass_95 rfl ?_
        refine g_iload_n C 99 4 dX2_lessonsToPass_98 rfl rfl ?_
        refine g_aload_n C 100 2 dX2_lessonsToPass_99 rfl rfl ?_
        refine g_iload_n C 101 3 dX2_lessonsToPass_100 rfl rfl ?_
        refine bnd h (fun x6 e6 h => ?_)
        refine g_callVr C 104 [.int v2, .ref t] [.int x6, .int v2, .ref t] (ct_X2_skillOf L o t q T v1 x6 e6) kX2_skillOf kvX2_skillOf wl_X2_69 2 0 rfl rfl rfl [0, 1, 2, 3, 4, 5, 6, 7] rfl rfl rfl rfl rfl (Nat.le_of_ble_eq_true rfl) ⟨Nat.le_of_ble_eq_true rfl, Nat.le_of_ble_eq_true rfl⟩ ⟨Nat.zero_le _, Nat.zero_le _⟩ dX2_lessonsToPass_101 rfl ?_
        refine g_iload C 106 1 dX2_lessonsToPass_104 rfl rfl ?_
        refine g_iload_n C 107 5 dX2_lessonsToPass_106 rfl rfl ?_
        refine bnd h (fun x7 e7 h => ?_)
        refine g_callVr C 110 [] [.int x7] (ct_X6_limitToPass L t q T v2 x6 (v4 ||| ((1 : Int32) <<< (v7 &&& 31))) v3 x7 e7) kX6_limitToPass kvX6_limitToPass wl_X2_71 6 0 rfl rfl rfl [1, 2, 3, 4, 5, 6, 7] rfl rfl rfl rfl rfl (Nat.le_of_ble_eq_true rfl) ⟨Nat.le_of_ble_eq_true rfl, Nat.le_of_ble_eq_true rfl⟩ ⟨Nat.zero_le _, Nat.zero_le _⟩ dX2_lessonsToPass_107 rfl ?_
        refine g_aload_n C 111 2 dX2_lessonsToPass_110 rfl rfl ?_
        refine g_get (v := .ref t) C 114 2 0 0 hin_2 rfl rfl (by decide) wf_X2_9 rfl dX2_lessonsToPass_111 rfl ?_
        refine g_get (v := .int (T.1 4)) C 117 6 1 4 hin_6 rfl rfl (by decide) wf_X2_75 rfl dX2_lessonsToPass_114 rfl ?_
        refine g_icmp_gt C 123 120 dX2_lessonsToPass_117 (by decide) rfl (fun c => ?_) (fun c => ?_)
        · have h := ifT c h
          refine g_lv (lv' := [(0, .ref o), (1, .int v1), (2, .int v2), (3, .int v3), (4, .int (v4 ||| ((1 : Int32) <<< (v7 &&& 31)))), (5, .int v5), (6, .int (v6 + (1 : Int32))), (7, .int v7)]) [2, 3, 4, 5, 1, 6, 0, 7] rfl ?_
          exact J_123 _ _ _ h
        · have h := ifF c h
          refine g_iload C 122 0 dX2_lessonsToPass_120 rfl rfl ?_
          exact g_iret (st := []) C E dX2_lessonsToPass_122 (by obtain rfl := Option.some.inj h; exact ⟨rfl, rfl⟩)
  unfold f_X2_lessonsToPass at h
  refine g_aload_n C 1 0 dX2_lessonsToPass_0 rfl rfl ?_
  refine g_iload_n C 2 1 dX2_lessonsToPass_1 rfl rfl ?_
  refine bnd h (fun x1 e1 h => ?_)
  refine g_callVr C 5 [] [.int x1] (ct_X2_knownOf L o t q T v1 x1 e1) kX2_knownOf kvX2_knownOf wl_X2_53 2 0 rfl rfl rfl [0, 1, 2, 3, 4, 5, 6, 7] rfl rfl rfl rfl rfl (Nat.le_of_ble_eq_true rfl) ⟨Nat.le_of_ble_eq_true rfl, Nat.le_of_ble_eq_true rfl⟩ ⟨Nat.zero_le _, Nat.zero_le _⟩ dX2_lessonsToPass_2 rfl ?_
  refine g_istore C 7 4 [(4, .int x1), (0, .ref o), (1, .int v1), (2, .int v2), (3, .int v3)] dX2_lessonsToPass_5 rfl 8 hNL (by decide) rfl ?_
  refine g_aload_n C 8 1 dX2_lessonsToPass_7 rfl rfl ?_
  refine g_get (v := .ref t) C 11 2 0 0 hin_2 rfl rfl (by decide) wf_X2_9 rfl dX2_lessonsToPass_8 rfl ?_
  refine g_get (v := .ref (q 9)) C 14 6 1 9 hin_6 rfl rfl (by decide) wf_X2_28 rfl dX2_lessonsToPass_11 rfl ?_
  refine g_iload_n C 15 3 dX2_lessonsToPass_14 rfl rfl ?_
  refine bnd h (fun x2 e2 h => ?_)
  refine g_callNr C 18 [] [.int x2] (ct_X7_at L (q 9) 6 (T.2 9) v2 x2 e2) kX7_at kvX7_at wn_X2_21 [5] rfl rfl rfl rfl rfl (Nat.le_of_ble_eq_true rfl) ⟨Nat.le_of_ble_eq_true rfl, Nat.le_of_ble_eq_true rfl⟩ ⟨Nat.zero_le _, Nat.zero_le _⟩ dX2_lessonsToPass_15 rfl ?_
  refine g_iload C 20 0 dX2_lessonsToPass_18 rfl rfl ?_
  refine g_iconst C 21 (-1 : Int32) dX2_lessonsToPass_20 rfl rfl ?_
  refine g_ixor C 22 dX2_lessonsToPass_21 rfl ?_
  refine g_iand C 23 dX2_lessonsToPass_22 rfl ?_
  refine g_istore C 25 5 [(5, .int (x2 &&& (x1 ^^^ (-1 : Int32)))), (4, .int x1), (0, .ref o), (1, .int v1), (2, .int v2), (3, .int v3)] dX2_lessonsToPass_23 rfl 8 hNL (by decide) rfl ?_
  refine g_iconst C 26 (0 : Int32) dX2_lessonsToPass_25 rfl rfl ?_
  refine g_istore C 28 6 [(6, .int (0 : Int32)), (5, .int (x2 &&& (x1 ^^^ (-1 : Int32)))), (4, .int x1), (0, .ref o), (1, .int v1), (2, .int v2), (3, .int v3)] dX2_lessonsToPass_26 rfl 8 hNL (by decide) rfl ?_
  refine g_aload_n C 29 3 dX2_lessonsToPass_28 rfl rfl ?_
  refine g_get (v := .ref t) C 32 2 0 0 hin_2 rfl rfl (by decide) wf_X2_9 rfl dX2_lessonsToPass_29 rfl ?_
  refine g_iload_n C 33 5 dX2_lessonsToPass_32 rfl rfl ?_
  refine g_aload_n C 34 3 dX2_lessonsToPass_33 rfl rfl ?_
  refine g_iload_n C 35 4 dX2_lessonsToPass_34 rfl rfl ?_
  refine bnd h (fun x3 e3 h => ?_)
  refine g_callVr C 38 [.int v2, .ref t] [.int x3, .int v2, .ref t] (ct_X2_skillOf L o t q T v1 x3 e3) kX2_skillOf kvX2_skillOf wl_X2_69 2 0 rfl rfl rfl [0, 1, 2, 3, 4, 5, 6, 7] rfl rfl rfl rfl rfl (Nat.le_of_ble_eq_true rfl) ⟨Nat.le_of_ble_eq_true rfl, Nat.le_of_ble_eq_true rfl⟩ ⟨Nat.zero_le _, Nat.zero_le _⟩ dX2_lessonsToPass_35 rfl ?_
  refine g_iload C 40 2 dX2_lessonsToPass_38 rfl rfl ?_
  refine g_iload_n C 41 6 dX2_lessonsToPass_40 rfl rfl ?_
  refine bnd h (fun x4 e4 h => ?_)
  refine g_callVr C 44 [] [.int x4] (ct_X6_limitToPass L t q T v2 x3 x1 v3 x4 e4) kX6_limitToPass kvX6_limitToPass wl_X2_71 6 0 rfl rfl rfl [1, 2, 3, 4, 5, 6, 7] rfl rfl rfl rfl rfl (Nat.le_of_ble_eq_true rfl) ⟨Nat.le_of_ble_eq_true rfl, Nat.le_of_ble_eq_true rfl⟩ ⟨Nat.zero_le _, Nat.zero_le _⟩ dX2_lessonsToPass_41 rfl ?_
  refine g_aload_n C 45 3 dX2_lessonsToPass_44 rfl rfl ?_
  refine g_get (v := .ref t) C 48 2 0 0 hin_2 rfl rfl (by decide) wf_X2_9 rfl dX2_lessonsToPass_45 rfl ?_
  refine g_get (v := .int (T.1 4)) C 51 6 1 4 hin_6 rfl rfl (by decide) wf_X2_75 rfl dX2_lessonsToPass_48 rfl ?_
  refine g_icmp_gt C 57 54 dX2_lessonsToPass_51 (by decide) rfl (fun c => ?_) (fun c => ?_)
  · have h := ifT c h
    refine g_iconst C 58 (0 : Int32) dX2_lessonsToPass_57 rfl rfl ?_
    refine g_istore C 60 7 [(7, .int (0 : Int32)), (6, .int (0 : Int32)), (5, .int (x2 &&& (x1 ^^^ (-1 : Int32)))), (4, .int x1), (0, .ref o), (1, .int v1), (2, .int v2), (3, .int v3)] dX2_lessonsToPass_58 rfl 8 hNL (by decide) rfl ?_
    refine g_lv (lv' := [(0, .ref o), (1, .int v1), (2, .int v2), (3, .int v3), (4, .int x1), (5, .int (x2 &&& (x1 ^^^ (-1 : Int32)))), (6, .int (0 : Int32)), (7, .int (0 : Int32))]) [4, 5, 6, 7, 3, 2, 1, 0] rfl ?_
    exact J_60 _ _ _ _ _ _ _ _ h
  · have h := ifF c h
    refine g_iload C 56 0 dX2_lessonsToPass_54 rfl rfl ?_
    exact g_iret (st := []) C E dX2_lessonsToPass_56 (by obtain rfl := Option.some.inj h; exact ⟨rfl, rfl⟩)
set_option maxHeartbeats 4000000 in
set_option maxRecDepth 100000 in
theorem ct_X2_leastSkill (L : LL) (o : Nat) (t : Nat) (q : Nat → Nat) (T : OS) (v1 : Int32) (v2 : Int32) (v3 : Int32) (x : Int32) (h : f_X2_leastSkill T v1 v2 v3 = some x) : Ct L yX2_leastSkill cX2_leastSkill 5 (some .int) (rmk 3 0 0 72) 0 0 [.ref o, .int v1, .int v2, .int v3] (cells2 L o t q T) (Pv (some (.int x)) (cells2 L o t q T)) := by
  refine g_enter (lv := [(0, .ref o), (1, .int v1), (2, .int v2), (3, .int v3)]) kX2_leastSkill rfl rfl (Nat.le_of_ble_eq_true rfl) (fun Γ C E hNL => ?_)
  have J_3 : ∀ (n : Nat) (v1 : Int32) (v2 : Int32) (v3 : Int32) (v4 : Int32), Lp1 (b_X2_leastSkill_3 T  v1 v2 v3) n v4 = some x → G L Γ 0 0 (cells2 L o t q T) 3 [(0, .ref o), (1, .int v1), (2, .int v2), (3, .int v3), (4, .int v4)] [] := by
    intro n v1 v2 v3
    refine lp_ok1 (fun v4 => G L Γ 0 0 (cells2 L o t q T) 3 [(0, .ref o), (1, .int v1), (2, .int v2), (3, .int v3), (4, .int v4)] []) (fun k_3 hk_3 => ?_) n
    intro v4 h
    unfold b_X2_leastSkill_3 at h
    refine g_iload C 5 4 dX2_leastSkill_3 rfl rfl ?_
    refine g_bipush C 7 (9 : Int32) dX2_leastSkill_5 rfl rfl ?_
    refine g_icmp_gt C 45 10 dX2_leastSkill_7 (by decide) rfl (fun c => ?_) (fun c => ?_)
    · have h := ifT c h
      refine g_bipush C 47 (-9 : Int32) dX2_leastSkill_45 rfl rfl ?_
      exact g_iret (st := []) C E dX2_leastSkill_47 (by obtain rfl := Option.some.inj h; exact ⟨rfl, rfl⟩)
    · have h := ifF c h
      refine g_aload_n C 11 0 dX2_leastSkill_10 rfl rfl ?_
      refine g_get (v := .ref t) C 14 2 0 0 hin_2 rfl rfl (by decide) wf_X2_9 rfl dX2_leastSkill_11 rfl ?_
      refine g_iload_n C 15 2 dX2_leastSkill_14 rfl rfl ?_
      refine g_iload C 17 4 dX2_leastSkill_15 rfl rfl ?_
      refine g_aload_n C 18 0 dX2_leastSkill_17 rfl rfl ?_
      refine g_iload_n C 19 1 dX2_leastSkill_18 rfl rfl ?_
      refine bnd h (fun x1 e1 h => ?_)
      refine g_callVr C 22 [.int v4, .int v2, .ref t] [.int x1, .int v4, .int v2, .ref t] (ct_X2_knownOf L o t q T v1 x1 e1) kX2_knownOf kvX2_knownOf wl_X2_53 2 0 rfl rfl rfl [0, 1, 2, 3, 4, 5, 6, 7] rfl rfl rfl rfl rfl (Nat.le_of_ble_eq_true rfl) ⟨Nat.le_of_ble_eq_true rfl, Nat.le_of_ble_eq_true rfl⟩ ⟨Nat.zero_le _, Nat.zero_le _⟩ dX2_leastSkill_19 rfl ?_
      refine g_iload_n C 23 3 dX2_leastSkill_22 rfl rfl ?_
      refine bnd h (fun x2 e2 h => ?_)
      refine g_callVr C 26 [] [.int x2] (ct_X6_limitToPass L t q T v2 v4 x1 v3 x2 e2) kX6_limitToPass kvX6_limitToPass wl_X2_71 6 0 rfl rfl rfl [1, 2, 3, 4, 5, 6, 7] rfl rfl rfl rfl rfl (Nat.le_of_ble_eq_true rfl) ⟨Nat.le_of_ble_eq_true rfl, Nat.le_of_ble_eq_true rfl⟩ ⟨Nat.zero_le _, Nat.zero_le _⟩ dX2_leastSkill_23 rfl ?_
      refine g_aload_n C 27 0 dX2_leastSkill_26 rfl rfl ?_
      refine g_get (v := .ref t) C 30 2 0 0 hin_2 rfl rfl (by decide) wf_X2_9 rfl dX2_leastSkill_27 rfl ?_
      refine g_get (v := .int (T.1 4)) C 33 6 1 4 hin_6 rfl rfl (by decide) wf_X2_75 rfl dX2_leastSkill_30 rfl ?_
      refine g_icmp_gt C 39 36 dX2_leastSkill_33 (by decide) rfl (fun c => ?_) (fun c => ?_)
      · have h := ifT c h
        refine g_iinc C 42 (1 : Int32) 4 [(4, .int (v4 + (1 : Int32))), (0, .ref o), (1, .int v1), (2, .int v2), (3, .int v3)] dX2_leastSkill_39 rfl rfl 5 hNL (by decide) rfl rfl ?_
        refine g_goto C 3 dX2_leastSkill_42 (by decide) ?_
        refine g_lv (lv' := [(0, .ref o), (1, .int v1), (2, .int v2), (3, .int v3), (4, .int (v4 + (1 : Int32)))]) [1, 2, 3, 4, 0] rfl ?_
        exact hk_3 _ h
      · have h := ifF c h
        refine g_iload C 38 4 dX2_leastSkill_36 rfl rfl ?_
        exact g_iret (st := []) C E dX2_leastSkill_38 (by obtain rfl := Option.some.inj h; exact ⟨rfl, rfl⟩)
  unfold f_X2_leastSkill at h
  refine g_iconst C 1 (0 : Int32) dX2_leastSkill_0 rfl rfl ?_
  refine g_istore C 3 4 [(4, .int (0 : Int32)), (0, .ref o), (1, .int v1), (2, .int v2), (3, .int v3)] dX2_leastSkill_1 rfl 5 hNL (by decide) rfl ?_
  refine g_lv (lv' := [(0, .ref o), (1, .int v1), (2, .int v2), (3, .int v3), (4, .int (0 : Int32))]) [1, 2, 3, 4, 0] rfl ?_
  exact J_3 _ _ _ _ _ h
set_option maxHeartbeats 4000000 in
set_option maxRecDepth 100000 in
theorem ct_X2_passesWithBalls (L : LL) (o : Nat) (t : Nat) (q : Nat → Nat) (T : OS) (v1 : Int32) (v2 : Int32) (v3 : Int32) (x : Int32) (h : f_X2_passesWithBalls T v1 v2 v3 = some x) : Ct L yX2_passesWithBalls cX2_passesWithBalls 7 (some .boolean) (rmk 3 0 0 68) 0 0 [.ref o, .int v1, .int v2, .int v3] (cells2 L o t q T) (Pv (some (.int x)) (cells2 L o t q T)) := by
  refine g_enter (lv := [(0, .ref o), (1, .int v1), (2, .int v2), (3, .int v3)]) kX2_passesWithBalls rfl rfl (Nat.le_of_ble_eq_true rfl) (fun Γ C E hNL => ?_)
  have J_90 : ∀ (v4 : Int32), j_X2_passesWithBalls_90 T  v4 = some x → G L Γ 0 0 (cells2 L o t q T) 90 [(0, .ref o), (4, .int v4)] [] := by
    intro v4 h
    unfold j_X2_passesWithBalls_90 at h
    refine g_iload C 92 1 dX2_passesWithBalls_90 rfl rfl ?_
    refine g_aload_n C 93 0 dX2_passesWithBalls_92 rfl rfl ?_
    refine g_get (v := .ref t) C 96 2 0 0 hin_2 rfl rfl (by decide) wf_X2_9 rfl dX2_passesWithBalls_93 rfl ?_
    refine g_get (v := .int (T.1 4)) C 99 6 1 4 hin_6 rfl rfl (by decide) wf_X2_75 rfl dX2_passesWithBalls_96 rfl ?_
    refine g_icmp_gt C 106 102 dX2_passesWithBalls_99 (by decide) rfl (fun c => ?_) (fun c => ?_)
    · have h := ifT c h
      refine g_iconst C 107 (0 : Int32) dX2_passesWithBalls_106 rfl rfl ?_
      exact g_zret (st := []) C E dX2_passesWithBalls_107 rfl (by obtain rfl := Option.some.inj h; exact ⟨rfl, rfl⟩)
    · have h := ifF c h
      refine g_iconst C 103 (1 : Int32) dX2_passesWithBalls_102 rfl rfl ?_
      refine g_goto C 107 dX2_passesWithBalls_103 (by decide) ?_
      exact g_zret (st := []) C E dX2_passesWithBalls_107 rfl (by obtain rfl := Option.some.inj h; exact ⟨rfl, rfl⟩)
  have J_6 : ∀ (n : Nat) (v1 : Int32) (v2 : Int32) (v3 : Int32) (v4 : Int32) (v5 : Int32), Lp2 (b_X2_passesWithBalls_6 T  v1 v2 v3) n v4 v5 = some x → G L Γ 0 0 (cells2 L o t q T) 6 [(0, .ref o), (1, .int v1), (2, .int v2), (3, .int v3), (4, .int v4), (5, .int v5)] [] := by
    intro n v1 v2 v3
    refine lp_ok2 (fun v4 v5 => G L Γ 0 0 (cells2 L o t q T) 6 [(0, .ref o), (1, .int v1), (2, .int v2), (3, .int v3), (4, .int v4), (5, .int v5)] []) (fun k_6 hk_6 => ?_) n
    have J_84 : ∀ (v4 : Int32) (v5 : Int32), j_X2_passesWithBalls_84 T k_6 v1 v2 v3 v4 v5 = some x → G L Γ 0 0 (cells2 L o t q T) 84 [(0, .ref o), (1, .int v1), (2, .int v2), (3, .int v3), (4, .int v4), (5, .int v5)] [] := by
      intro v4 v5 h
      unfold j_X2_passesWithBalls_84 at h
      refine g_iinc C 87 (1 : Int32) 5 [(5, .int (v5 + (1 : Int32))), (0, .ref o), (1, .int v1), (2, .int v2), (3, .int v3), (4, .int v4)] dX2_passesWithBalls_84 rfl rfl 7 hNL (by decide) rfl rfl ?_
      refine g_goto C 6 dX2_passesWithBalls_87 (by decide) ?_
      refine g_lv (lv' := [(0, .ref o), (1, .int v1), (2, .int v2), (3, .int v3), (4, .int v4), (5, .int (v5 + (1 : Int32)))]) [1, 2, 3, 4, 5, 0] rfl ?_
      exact hk_6 _ _ h
    have J_66 : ∀ (v4 : Int32) (v5 : Int32) (s0 : Int32) (s1 : Int32), j_X2_passesWithBalls_66 T k_6 v1 v2 v3 v4 v5 s0 s1 = some x → G L Γ 0 0 (cells2 L o t q T) 66 [(0, .ref o), (1, .int v1), (2, .int v2), (3, .int v3), (4, .int v4), (5, .int v5)] [.int s0, .int s1] := by
      intro v4 v5 s0 s1 h
      unfold j_X2_passesWithBalls_66 at h
      refine g_iadd C 67 dX2_passesWithBalls_66 rfl ?_
      refine g_istore C 69 6 [(6, .int (s1 + s0)), (0, .ref o), (1, .int v1), (2, .int v2), (3, .int v3), (4, .int v4), (5, .int v5)] dX2_passesWithBalls_67 rfl 7 hNL (by decide) rfl ?_
      refine g_iload C 71 0 dX2_passesWithBalls_69 rfl rfl ?_
      refine g_iconst C 72 (5 : Int32) dX2_passesWithBalls_71 rfl rfl ?_
      refine g_icmp_le C 77 75 dX2_passesWithBalls_72 (by decide) rfl (fun c => ?_) (fun c => ?_)
      · have h := ifT c h
        refine g_iload C 79 5 dX2_passesWithBalls_77 rfl rfl ?_
        refine g_iload C 81 0 dX2_passesWithBalls_79 rfl rfl ?_
        refine g_iadd C 82 dX2_passesWithBalls_81 rfl ?_
        refine g_istore C 84 4 [(4, .int (v4 + (s1 + s0))), (6, .int (s1 + s0)), (0, .ref o), (1, .int v1), (2, .int v2), (3, .int v3), (5, .int v5)] dX2_passesWithBalls_82 rfl 7 hNL (by decide) rfl ?_
        refine g_lv (lv' := [(0, .ref o), (1, .int v1), (2, .int v2), (3, .int v3), (4, .int (v4 + (s1 + s0))), (5, .int v5)]) [2, 3, 4, 5, 0, 6] rfl ?_
        exact J_84 _ _ h
      · have h := ifF c h
        refine g_iconst C 76 (0 : Int32) dX2_passesWithBalls_75 rfl rfl ?_
        exact g_zret (st := []) C E dX2_passesWithBalls_76 rfl (by obtain rfl := Option.some.inj h; exact ⟨rfl, rfl⟩)
    intro v4 v5 h
    unfold b_X2_passesWithBalls_6 at h
    refine g_iload C 8 5 dX2_passesWithBalls_6 rfl rfl ?_
    refine g_aload_n C 9 0 dX2_passesWithBalls_8 rfl rfl ?_
    refine g_get (v := .ref t) C 12 2 0 0 hin_2 rfl rfl (by decide) wf_X2_9 rfl dX2_passesWithBalls_9 rfl ?_
    refine g_get (v := .int (T.1 0)) C 15 6 1 0 hin_6 rfl rfl (by decide) wf_X2_31 rfl dX2_passesWithBalls_12 rfl ?_
    refine g_icmp_ge C 90 18 dX2_passesWithBalls_15 (by decide) rfl (fun c => ?_) (fun c => ?_)
    · have h := ifT c h
      refine g_lv (lv' := [(0, .ref o), (4, .int v4)]) [0, 4] rfl ?_
      exact J_90 _ h
    · have h := ifF c h
      refine g_iload_n C 19 2 dX2_passesWithBalls_18 rfl rfl ?_
      refine g_iload C 21 5 dX2_passesWithBalls_19 rfl rfl ?_
      refine bnd h (fun x1 e1 h => ?_)
      refine g_callNr C 24 [] [.int x1] (ct_X7_has L v2 v5 x1 e1) kX7_has kvX7_has wn_X2_35 [] rfl rfl rfl rfl rfl (Nat.le_of_ble_eq_true rfl) ⟨Nat.le_of_ble_eq_true rfl, Nat.le_of_ble_eq_true rfl⟩ ⟨Nat.zero_le _, Nat.zero_le _⟩ dX2_passesWithBalls_21 rfl ?_
      refine g_if_eq C 84 27 dX2_passesWithBalls_24 (by decide) rfl (fun c => ?_) (fun c => ?_)
      · have h := ifT c h
        exact J_84 _ _ h
      · have h := ifF c h
        refine g_aload_n C 28 0 dX2_passesWithBalls_27 rfl rfl ?_
        refine g_get (v := .ref t) C 31 2 0 0 hin_2 rfl rfl (by decide) wf_X2_9 rfl dX2_passesWithBalls_28 rfl ?_
        refine g_iload_n C 32 1 dX2_passesWithBalls_31 rfl rfl ?_
        refine g_iload C 34 5 dX2_passesWithBalls_32 rfl rfl ?_
        refine g_aload_n C 35 0 dX2_passesWithBalls_34 rfl rfl ?_
        refine g_get (v := .ref t) C 38 2 0 0 hin_2 rfl rfl (by decide) wf_X2_9 rfl dX2_passesWithBalls_35 rfl ?_
        refine g_get (v := .int (T.1 3)) C 41 6 1 3 hin_6 rfl rfl (by decide) wf_X2_85 rfl dX2_passesWithBalls_38 rfl ?_
        refine bnd h (fun x2 e2 h => ?_)
        refine g_callVr C 44 [] [.int x2] (ct_X6_faultsIn L t q T v1 v5 (T.1 3) x2 e2) kX6_faultsIn kvX6_faultsIn wl_X2_39 6 0 rfl rfl rfl [1, 2, 3, 4, 5, 6, 7] rfl rfl rfl rfl rfl (Nat.le_of_ble_eq_true rfl) ⟨Nat.le_of_ble_eq_true rfl, Nat.le_of_ble_eq_true rfl⟩ ⟨Nat.zero_le _, Nat.zero_le _⟩ dX2_passesWithBalls_41 rfl ?_
        refine g_iload_n C 45 3 dX2_passesWithBalls_44 rfl rfl ?_
        refine g_iload C 47 5 dX2_passesWithBalls_45 rfl rfl ?_
        refine bnd h (fun x3 e3 h => ?_)
        refine g_callNr C 50 [.int x2] [.int x3, .int x2] (ct_X7_has L v3 v5 x3 e3) kX7_has kvX7_has wn_X2_35 [] rfl rfl rfl rfl rfl (Nat.le_of_ble_eq_true rfl) ⟨Nat.le_of_ble_eq_true rfl, Nat.le_of_ble_eq_true rfl⟩ ⟨Nat.zero_le _, Nat.zero_le _⟩ dX2_passesWithBalls_47 rfl ?_
        refine g_if_eq C 65 53 dX2_passesWithBalls_50 (by decide) rfl (fun c => ?_) (fun c => ?_)
        · have h := ifT c h
          refine g_iconst C 66 (0 : Int32) dX2_passesWithBalls_65 rfl rfl ?_
          exact J_66 _ _ _ _ h
        · have h := ifF c h
          refine g_aload_n C 54 0 dX2_passesWithBalls_53 rfl rfl ?_
          refine g_get (v := .ref t) C 57 2 0 0 hin_2 rfl rfl (by decide) wf_X2_9 rfl dX2_passesWithBalls_54 rfl ?_
          refine g_iload C 59 5 dX2_passesWithBalls_57 rfl rfl ?_
          refine bnd h (fun x4 e4 h => ?_)
          refine g_callVr C 62 [.int x2] [.int x4, .int x2] (ct_X6_ballOf L t q T v5 x4 e4) kX6_ballOf kvX6_ballOf wl_X2_88 6 0 rfl rfl rfl [1, 2, 3, 4, 5, 6, 7] rfl rfl rfl rfl rfl (Nat.le_of_ble_eq_true rfl) ⟨Nat.le_of_ble_eq_true rfl, Nat.le_of_ble_eq_true rfl⟩ ⟨Nat.zero_le _, Nat.zero_le _⟩ dX2_passesWithBalls_59 rfl ?_
          refine g_goto C 66 dX2_passesWithBalls_62 (by decide) ?_
          exact J_66 _ _ _ _ h
  unfold f_X2_passesWithBalls at h
  refine g_iconst C 1 (0 : Int32) dX2_passesWithBalls_0 rfl rfl ?_
  refine g_istore C 3 4 [(4, .int (0 : Int32)), (0, .ref o), (1, .int v1), (2, .int v2), (3, .int v3)] dX2_passesWithBalls_1 rfl 7 hNL (by decide) rfl ?_
  refine g_iconst C 4 (0 : Int32) dX2_passesWithBalls_3 rfl rfl ?_
  refine g_istore C 6 5 [(5, .int (0 : Int32)), (4, .int (0 : Int32)), (0, .ref o), (1, .int v1), (2, .int v2), (3, .int v3)] dX2_passesWithBalls_4 rfl 7 hNL (by decide) rfl ?_
  refine g_lv (lv' := [(0, .ref o), (1, .int v1), (2, .int v2), (3, .int v3), (4, .int (0 : Int32)), (5, .int (0 : Int32))]) [2, 3, 4, 5, 1, 0] rfl ?_
  exact J_6 _ _ _ _ _ _ h
set_option maxHeartbeats 4000000 in
set_option maxRecDepth 100000 in
theorem ct_X2_chancesWithBalls (L : LL) (o : Nat) (t : Nat) (q : Nat → Nat) (T : OS) (v1 : Int32) (v2 : Int32) (v3 : Int32) (x : Int64) (h : f_X2_chancesWithBalls T v1 v2 v3 = some x) : Ct L yX2_chancesWithBalls cX2_chancesWithBalls 9 (some .long) (rmk 4 0 0 94) 0 0 [.ref o, .int v1, .int v2, .int v3] (cells2 L o t q T) (Pv (some (.long x)) (cells2 L o t q T)) := by
  refine g_enter (lv := [(0, .ref o), (1, .int v1), (2, .int v2), (3, .int v3)]) kX2_chancesWithBalls rfl rfl (Nat.le_of_ble_eq_true rfl) (fun Γ C E hNL => ?_)
  have J_26 : ∀ (n : Nat) (v1 : Int32) (v3 : Int32) (v4 : Int32) (v5 : Int32) (v6 : Int64) (v8 : Int32), Lp2 (b_X2_chancesWithBalls_26 T  v1 v3 v4 v5) n v6 v8 = some x → G L Γ 0 0 (cells2 L o t q T) 26 [(0, .ref o), (1, .int v1), (3, .int v3), (4, .int v4), (5, .int v5), (6, .long v6), (8, .int v8)] [] := by
    intro n v1 v3 v4 v5
    refine lp_ok2 (fun v6 v8 => G L Γ 0 0 (cells2 L o t q T) 26 [(0, .ref o), (1, .int v1), (3, .int v3), (4, .int v4), (5, .int v5), (6, .long v6), (8, .int v8)] []) (fun k_26 hk_26 => ?_) n
    have J_74 : ∀ (v6 : Int64) (v8 : Int32), j_X2_chancesWithBalls_74 T k_26 v1 v3 v4 v5 v6 v8 = some x → G L Γ 0 0 (cells2 L o t q T) 74 [(0, .ref o), (1, .int v1), (3, .int v3), (4, .int v4), (5, .int v5), (6, .long v6), (8, .int v8)] [] := by
      intro v6 v8 h
      unfold j_X2_chancesWithBalls_74 at h
      refine g_iinc C 77 (1 : Int32) 6 [(8, .int (v8 + (1 : Int32))), (0, .ref o), (1, .int v1), (3, .int v3), (4, .int v4), (5, .int v5), (6, .long v6)] dX2_chancesWithBalls_74 rfl rfl 9 hNL (by decide) rfl rfl ?_
      refine g_goto C 26 dX2_chancesWithBalls_77 (by decide) ?_
      refine g_lv (lv' := [(0, .ref o), (1, .int v1), (3, .int v3), (4, .int v4), (5, .int v5), (6, .long v6), (8, .int (v8 + (1 : Int32)))]) [1, 2, 3, 4, 5, 6, 0] rfl ?_
      exact hk_26 _ _ h
    intro v6 v8 h
    unfold b_X2_chancesWithBalls_26 at h
    refine g_iload C 28 6 dX2_chancesWithBalls_26 rfl rfl ?_
    refine g_iload C 30 3 dX2_chancesWithBalls_28 rfl rfl ?_
    refine g_icmp_gt C 80 33 dX2_chancesWithBalls_30 (by decide) rfl (fun c => ?_) (fun c => ?_)
    · have h := ifT c h
      refine g_lload C 82 5 dX2_chancesWithBalls_80 rfl rfl ?_
      exact g_lret (st := []) C E dX2_chancesWithBalls_82 (by obtain rfl := Option.some.inj h; exact ⟨rfl, rfl⟩)
    · have h := ifF c h
      refine g_iload C 35 6 dX2_chancesWithBalls_33 rfl rfl ?_
      refine g_iload C 37 3 dX2_chancesWithBalls_35 rfl rfl ?_
      refine g_iconst C 38 (-1 : Int32) dX2_chancesWithBalls_37 rfl rfl ?_
      refine g_ixor C 39 dX2_chancesWithBalls_38 rfl ?_
      refine g_iand C 40 dX2_chancesWithBalls_39 rfl ?_
      refine g_if_ne C 74 43 dX2_chancesWithBalls_40 (by decide) rfl (fun c => ?_) (fun c => ?_)
      · have h := ifF c h
        exact J_74 _ _ h
      · have h := ifT c h
        refine g_aload_n C 44 0 dX2_chancesWithBalls_43 rfl rfl ?_
        refine g_iload_n C 45 1 dX2_chancesWithBalls_44 rfl rfl ?_
        refine g_iload C 47 3 dX2_chancesWithBalls_45 rfl rfl ?_
        refine g_iload C 49 6 dX2_chancesWithBalls_47 rfl rfl ?_
        refine bnd h (fun x3 e3 h => ?_)
        refine g_callVr C 52 [] [.int x3] (ct_X2_passesWithBalls L o t q T v1 v4 v8 x3 e3) kX2_passesWithBalls kvX2_passesWithBalls wl_X2_78 2 0 rfl rfl rfl [0, 1, 2, 3, 4, 5, 6, 7] rfl rfl rfl rfl rfl (Nat.le_of_ble_eq_true rfl) ⟨Nat.le_of_ble_eq_true rfl, Nat.le_of_ble_eq_true rfl⟩ ⟨Nat.zero_le _, Nat.zero_le _⟩ dX2_chancesWithBalls_49 rfl ?_
        refine g_if_eq C 74 55 dX2_chancesWithBalls_52 (by decide) rfl (fun c => ?_) (fun c => ?_)
        · have h := ifT c h
          exact J_74 _ _ h
        · have h := ifF c h
          refine g_lload C 57 5 dX2_chancesWithBalls_55 rfl rfl ?_
          refine g_iload_n C 58 2 dX2_chancesWithBalls_57 rfl rfl ?_
          refine g_iconst C 59 (1 : Int32) dX2_chancesWithBalls_58 rfl rfl ?_
          refine g_isub C 60 dX2_chancesWithBalls_59 rfl ?_
          refine g_iload C 62 4 dX2_chancesWithBalls_60 rfl rfl ?_
          refine g_iload C 64 6 dX2_chancesWithBalls_62 rfl rfl ?_
          refine bnd h (fun x4 e4 h => ?_)
          refine g_callSr C 67 [.int v5, .int (v3 - (1 : Int32)), .long v6] [.int x4, .int v5, .int (v3 - (1 : Int32)), .long v6] (ct_J6_bitCount_0f7a4 L v8 x4 e4) kJ6_bitCount_0f7a4 kvJ6_bitCount_0f7a4 wl_X2_60 [] rfl rfl rfl rfl rfl (Nat.le_of_ble_eq_true rfl) ⟨Nat.le_of_ble_eq_true rfl, Nat.le_of_ble_eq_true rfl⟩ ⟨Nat.zero_le _, Nat.zero_le _⟩ dX2_chancesWithBalls_64 rfl ?_
          refine g_isub C 68 dX2_chancesWithBalls_67 rfl ?_
          refine bnd h (fun x5 e5 h => ?_)
          refine g_callNr C 71 [.long v6] [.long x5, .long v6] (ct_X7_power L (v3 - (1 : Int32)) (v5 - x4) x5 e5) kX7_power kvX7_power wn_X2_81 [] rfl rfl rfl rfl rfl (Nat.le_of_ble_eq_true rfl) ⟨Nat.le_of_ble_eq_true rfl, Nat.le_of_ble_eq_true rfl⟩ ⟨Nat.zero_le _, Nat.zero_le _⟩ dX2_chancesWithBalls_68 rfl ?_
          refine g_ladd C 72 dX2_chancesWithBalls_71 rfl ?_
          refine g_lstore C 74 6 [(6, .long (v6 + x5)), (0, .ref o), (1, .int v1), (3, .int v3), (4, .int v4), (5, .int v5), (8, .int v8)] dX2_chancesWithBalls_72 rfl 9 hNL (by decide) rfl ?_
          refine g_lv (lv' := [(0, .ref o), (1, .int v1), (3, .int v3), (4, .int v4), (5, .int v5), (6, .long (v6 + x5)), (8, .int v8)]) [1, 2, 3, 4, 5, 0, 6] rfl ?_
          exact J_74 _ _ h
  unfold f_X2_chancesWithBalls at h
  refine g_aload_n C 1 0 dX2_chancesWithBalls_0 rfl rfl ?_
  refine g_get (v := .ref t) C 4 2 0 0 hin_2 rfl rfl (by decide) wf_X2_9 rfl dX2_chancesWithBalls_1 rfl ?_
  refine g_get (v := .ref (q 9)) C 7 6 1 9 hin_6 rfl rfl (by decide) wf_X2_28 rfl dX2_chancesWithBalls_4 rfl ?_
  refine g_iload_n C 8 2 dX2_chancesWithBalls_7 rfl rfl ?_
  refine bnd h (fun x1 e1 h => ?_)
  refine g_callNr C 11 [] [.int x1] (ct_X7_at L (q 9) 6 (T.2 9) v2 x1 e1) kX7_at kvX7_at wn_X2_21 [5] rfl rfl rfl rfl rfl (Nat.le_of_ble_eq_true rfl) ⟨Nat.le_of_ble_eq_true rfl, Nat.le_of_ble_eq_true rfl⟩ ⟨Nat.zero_le _, Nat.zero_le _⟩ dX2_chancesWithBalls_8 rfl ?_
  refine g_istore C 13 4 [(4, .int x1), (0, .ref o), (1, .int v1), (2, .int v2), (3, .int v3)] dX2_chancesWithBalls_11 rfl 9 hNL (by decide) rfl ?_
  refine g_iload C 15 0 dX2_chancesWithBalls_13 rfl rfl ?_
  refine bnd h (fun x2 e2 h => ?_)
  refine g_callSr C 18 [] [.int x2] (ct_J6_bitCount_0f7a4 L x1 x2 e2) kJ6_bitCount_0f7a4 kvJ6_bitCount_0f7a4 wl_X2_60 [] rfl rfl rfl rfl rfl (Nat.le_of_ble_eq_true rfl) ⟨Nat.le_of_ble_eq_true rfl, Nat.le_of_ble_eq_true rfl⟩ ⟨Nat.zero_le _, Nat.zero_le _⟩ dX2_chancesWithBalls_15 rfl ?_
  refine g_istore C 20 5 [(5, .int x2), (4, .int x1), (0, .ref o), (1, .int v1), (2, .int v2), (3, .int v3)] dX2_chancesWithBalls_18 rfl 9 hNL (by decide) rfl ?_
  refine g_lconst C 21 (0 : Int64) dX2_chancesWithBalls_20 rfl rfl ?_
  refine g_lstore C 23 6 [(6, .long (0 : Int64)), (5, .int x2), (4, .int x1), (0, .ref o), (1, .int v1), (2, .int v2), (3, .int v3)] dX2_chancesWithBalls_21 rfl 9 hNL (by decide) rfl ?_
  refine g_iconst C 24 (0 : Int32) dX2_chancesWithBalls_23 rfl rfl ?_
  refine g_istore C 26 8 [(8, .int (0 : Int32)), (6, .long (0 : Int64)), (5, .int x2), (4, .int x1), (0, .ref o), (1, .int v1), (2, .int v2), (3, .int v3)] dX2_chancesWithBalls_24 rfl 9 hNL (by decide) rfl ?_
  refine g_lv (lv' := [(0, .ref o), (1, .int v1), (3, .int v3), (4, .int x1), (5, .int x2), (6, .long (0 : Int64)), (8, .int (0 : Int32))]) [4, 5, 7, 3, 2, 1, 0] rfl ?_
  exact J_26 _ _ _ _ _ _ _ h
set_option maxHeartbeats 4000000 in
set_option maxRecDepth 100000 in
theorem ct_X2_passedKnowing (L : LL) (o : Nat) (t : Nat) (q : Nat → Nat) (T : OS) (v1 : Int32) (v2 : Int32) (x : Int32) (h : f_X2_passedKnowing T v1 v2 = some x) : Ct L yX2_passedKnowing cX2_passedKnowing 5 (some .int) (rmk 4 0 0 97) 0 0 [.ref o, .int v1, .int v2] (cells2 L o t q T) (Pv (some (.int x)) (cells2 L o t q T)) := by
  refine g_enter (lv := [(0, .ref o), (1, .int v1), (2, .int v2)]) kX2_passedKnowing rfl rfl (Nat.le_of_ble_eq_true rfl) (fun Γ C E hNL => ?_)
  have J_5 : ∀ (n : Nat) (v1 : Int32) (v2 : Int32) (v3 : Int32) (v4 : Int32), Lp2 (b_X2_passedKnowing_5 T  v1 v2) n v3 v4 = some x → G L Γ 0 0 (cells2 L o t q T) 5 [(0, .ref o), (1, .int v1), (2, .int v2), (3, .int v3), (4, .int v4)] [] := by
    intro n v1 v2
    refine lp_ok2 (fun v3 v4 => G L Γ 0 0 (cells2 L o t q T) 5 [(0, .ref o), (1, .int v1), (2, .int v2), (3, .int v3), (4, .int v4)] []) (fun k_5 hk_5 => ?_) n
    intro v3 v4 h
    unfold b_X2_passedKnowing_5 at h
    refine g_iload C 7 4 dX2_passedKnowing_5 rfl rfl ?_
    refine g_bipush C 9 (24 : Int32) dX2_passedKnowing_7 rfl rfl ?_
    refine g_icmp_ge C 39 12 dX2_passedKnowing_9 (by decide) rfl (fun c => ?_) (fun c => ?_)
    · have h := ifT c h
      refine g_iload_n C 40 3 dX2_passedKnowing_39 rfl rfl ?_
      exact g_iret (st := []) C E dX2_passedKnowing_40 (by obtain rfl := Option.some.inj h; exact ⟨rfl, rfl⟩)
    · have h := ifF c h
      refine g_iload_n C 13 3 dX2_passedKnowing_12 rfl rfl ?_
      refine g_aload_n C 14 0 dX2_passedKnowing_13 rfl rfl ?_
      refine g_get (v := .ref t) C 17 2 0 0 hin_2 rfl rfl (by decide) wf_X2_9 rfl dX2_passedKnowing_14 rfl ?_
      refine g_aload_n C 18 0 dX2_passedKnowing_17 rfl rfl ?_
      refine g_iload_n C 19 1 dX2_passedKnowing_18 rfl rfl ?_
      refine bnd h (fun x1 e1 h => ?_)
      refine g_callVr C 22 [.ref t, .int v3] [.int x1, .ref t, .int v3] (ct_X2_skillOf L o t q T v1 x1 e1) kX2_skillOf kvX2_skillOf wl_X2_69 2 0 rfl rfl rfl [0, 1, 2, 3, 4, 5, 6, 7] rfl rfl rfl rfl rfl (Nat.le_of_ble_eq_true rfl) ⟨Nat.le_of_ble_eq_true rfl, Nat.le_of_ble_eq_true rfl⟩ ⟨Nat.zero_le _, Nat.zero_le _⟩ dX2_passedKnowing_19 rfl ?_
      refine g_iload_n C 23 2 dX2_passedKnowing_22 rfl rfl ?_
      refine g_iload C 25 4 dX2_passedKnowing_23 rfl rfl ?_
      refine bnd h (fun x2 e2 h => ?_)
      refine g_callVr C 28 [.int v3] [.int x2, .int v3] (ct_X6_waysPassed L t q T x1 v2 v4 x2 e2) kX6_waysPassed kvX6_waysPassed wl_X2_91 6 0 rfl rfl rfl [1, 2, 3, 4, 5, 6, 7] rfl rfl rfl rfl rfl (Nat.le_of_ble_eq_true rfl) ⟨Nat.le_of_ble_eq_true rfl, Nat.le_of_ble_eq_true rfl⟩ ⟨Nat.zero_le _, Nat.zero_le _⟩ dX2_passedKnowing_25 rfl ?_
      refine bnd h (fun x3 e3 h => ?_)
      refine g_callSr C 31 [.int v3] [.int x3, .int v3] (ct_J6_bitCount_0f7a4 L x2 x3 e3) kJ6_bitCount_0f7a4 kvJ6_bitCount_0f7a4 wl_X2_60 [] rfl rfl rfl rfl rfl (Nat.le_of_ble_eq_true rfl) ⟨Nat.le_of_ble_eq_true rfl, Nat.le_of_ble_eq_true rfl⟩ ⟨Nat.zero_le _, Nat.zero_le _⟩ dX2_passedKnowing_28 rfl ?_
      refine g_iadd C 32 dX2_passedKnowing_31 rfl ?_
      refine g_istore_n C 33 3 [(3, .int (v3 + x3)), (0, .ref o), (1, .int v1), (2, .int v2), (4, .int v4)] dX2_passedKnowing_32 rfl rfl 5 hNL (by decide) rfl ?_
      refine g_iinc C 36 (1 : Int32) 4 [(4, .int (v4 + (1 : Int32))), (3, .int (v3 + x3)), (0, .ref o), (1, .int v1), (2, .int v2)] dX2_passedKnowing_33 rfl rfl 5 hNL (by decide) rfl rfl ?_
      refine g_goto C 5 dX2_passedKnowing_36 (by decide) ?_
      refine g_lv (lv' := [(0, .ref o), (1, .int v1), (2, .int v2), (3, .int (v3 + x3)), (4, .int (v4 + (1 : Int32)))]) [2, 3, 4, 1, 0] rfl ?_
      exact hk_5 _ _ h
  unfold f_X2_passedKnowing at h
  refine g_iconst C 1 (0 : Int32) dX2_passedKnowing_0 rfl rfl ?_
  refine g_istore_n C 2 3 [(3, .int (0 : Int32)), (0, .ref o), (1, .int v1), (2, .int v2)] dX2_passedKnowing_1 rfl rfl 5 hNL (by decide) rfl ?_
  refine g_iconst C 3 (0 : Int32) dX2_passedKnowing_2 rfl rfl ?_
  refine g_istore C 5 4 [(4, .int (0 : Int32)), (3, .int (0 : Int32)), (0, .ref o), (1, .int v1), (2, .int v2)] dX2_passedKnowing_3 rfl 5 hNL (by decide) rfl ?_
  refine g_lv (lv' := [(0, .ref o), (1, .int v1), (2, .int v2), (3, .int (0 : Int32)), (4, .int (0 : Int32))]) [2, 3, 4, 1, 0] rfl ?_
  exact J_5 _ _ _ _ _ h
set_option maxHeartbeats 4000000 in
set_option maxRecDepth 100000 in
theorem ct_X2_gained (L : LL) (o : Nat) (t : Nat) (q : Nat → Nat) (T : OS) (v1 : Int32) (v2 : Int32) (x : Int32) (h : f_X2_gained T v1 v2 = some x) : Ct L yX2_gained cX2_gained 4 (some .int) (rmk 5 0 0 121) 0 0 [.ref o, .int v1, .int v2] (cells2 L o t q T) (Pv (some (.int x)) (cells2 L o t q T)) := by
  refine g_enter (lv := [(0, .ref o), (1, .int v1), (2, .int v2)]) kX2_gained rfl rfl (Nat.le_of_ble_eq_true rfl) (fun Γ C E hNL => ?_)
  unfold f_X2_gained at h
  refine g_aload_n C 1 0 dX2_gained_0 rfl rfl ?_
  refine g_iload_n C 2 1 dX2_gained_1 rfl rfl ?_
  refine bnd h (fun x1 e1 h => ?_)
  refine g_callVr C 5 [] [.int x1] (ct_X2_knownOf L o t q T v1 x1 e1) kX2_knownOf kvX2_knownOf wl_X2_53 2 0 rfl rfl rfl [0, 1, 2, 3, 4, 5, 6, 7] rfl rfl rfl rfl rfl (Nat.le_of_ble_eq_true rfl) ⟨Nat.le_of_ble_eq_true rfl, Nat.le_of_ble_eq_true rfl⟩ ⟨Nat.zero_le _, Nat.zero_le _⟩ dX2_gained_2 rfl ?_
  refine g_istore_n C 6 3 [(3, .int x1), (0, .ref o), (1, .int v1), (2, .int v2)] dX2_gained_5 rfl rfl 4 hNL (by decide) rfl ?_
  refine g_aload_n C 7 1 dX2_gained_6 rfl rfl ?_
  refine g_iload_n C 8 2 dX2_gained_7 rfl rfl ?_
  refine g_iload_n C 9 0 dX2_gained_8 rfl rfl ?_
  refine g_iconst C 10 (1 : Int32) dX2_gained_9 rfl rfl ?_
  refine g_iload_n C 11 3 dX2_gained_10 rfl rfl ?_
  refine g_ishl C 12 dX2_gained_11 rfl ?_
  refine g_ior C 13 dX2_gained_12 rfl ?_
  refine bnd h (fun x2 e2 h => ?_)
  refine g_callVr C 16 [] [.int x2] (ct_X2_passedKnowing L o t q T v1 (x1 ||| ((1 : Int32) <<< (v2 &&& 31))) x2 e2) kX2_passedKnowing kvX2_passedKnowing wl_X2_94 2 0 rfl rfl rfl [0, 1, 2, 3, 4, 5, 6, 7] rfl rfl rfl rfl rfl (Nat.le_of_ble_eq_true rfl) ⟨Nat.le_of_ble_eq_true rfl, Nat.le_of_ble_eq_true rfl⟩ ⟨Nat.zero_le _, Nat.zero_le _⟩ dX2_gained_13 rfl ?_
  refine g_aload_n C 17 1 dX2_gained_16 rfl rfl ?_
  refine g_iload_n C 18 2 dX2_gained_17 rfl rfl ?_
  refine g_iload_n C 19 0 dX2_gained_18 rfl rfl ?_
  refine bnd h (fun x3 e3 h => ?_)
  refine g_callVr C 22 [.int x2] [.int x3, .int x2] (ct_X2_passedKnowing L o t q T v1 x1 x3 e3) kX2_passedKnowing kvX2_passedKnowing wl_X2_94 2 0 rfl rfl rfl [0, 1, 2, 3, 4, 5, 6, 7] rfl rfl rfl rfl rfl (Nat.le_of_ble_eq_true rfl) ⟨Nat.le_of_ble_eq_true rfl, Nat.le_of_ble_eq_true rfl⟩ ⟨Nat.zero_le _, Nat.zero_le _⟩ dX2_gained_19 rfl ?_
  refine g_isub C 23 dX2_gained_22 rfl ?_
  exact g_iret (st := []) C E dX2_gained_23 (by obtain rfl := Option.some.inj h; exact ⟨rfl, rfl⟩)
set_option maxHeartbeats 4000000 in
set_option maxRecDepth 100000 in
theorem ct_X2_bestLesson (L : LL) (o : Nat) (t : Nat) (q : Nat → Nat) (T : OS) (v1 : Int32) (x : Int32) (h : f_X2_bestLesson T v1 = some x) : Ct L yX2_bestLesson cX2_bestLesson 7 (some .int) (rmk 5 0 0 121) 0 0 [.ref o, .int v1] (cells2 L o t q T) (Pv (some (.int x)) (cells2 L o t q T)) := by
  refine g_enter (lv := [(0, .ref o), (1, .int v1)]) kX2_bestLesson rfl rfl (Nat.le_of_ble_eq_true rfl) (fun Γ C E hNL => ?_)
  have J_15 : ∀ (n : Nat) (v1 : Int32) (v2 : Int32) (v3 : Int32) (v4 : Int32) (v5 : Int32), Lp3 (b_X2_bestLesson_15 T  v1 v2) n v3 v4 v5 = some x → G L Γ 0 0 (cells2 L o t q T) 15 [(0, .ref o), (1, .int v1), (2, .int v2), (3, .int v3), (4, .int v4), (5, .int v5)] [] := by
    intro n v1 v2
    refine lp_ok3 (fun v3 v4 v5 => G L Γ 0 0 (cells2 L o t q T) 15 [(0, .ref o), (1, .int v1), (2, .int v2), (3, .int v3), (4, .int v4), (5, .int v5)] []) (fun k_15 hk_15 => ?_) n
    have J_62 : ∀ (v3 : Int32) (v4 : Int32) (v5 : Int32), j_X2_bestLesson_62 T k_15 v1 v2 v3 v4 v5 = some x → G L Γ 0 0 (cells2 L o t q T) 62 [(0, .ref o), (1, .int v1), (2, .int v2), (3, .int v3), (4, .int v4), (5, .int v5)] [] := by
      intro v3 v4 v5 h
      unfold j_X2_bestLesson_62 at h
      refine g_iinc C 65 (1 : Int32) 5 [(5, .int (v5 + (1 : Int32))), (0, .ref o), (1, .int v1), (2, .int v2), (3, .int v3), (4, .int v4)] dX2_bestLesson_62 rfl rfl 7 hNL (by decide) rfl rfl ?_
      refine g_goto C 15 dX2_bestLesson_65 (by decide) ?_
      refine g_lv (lv' := [(0, .ref o), (1, .int v1), (2, .int v2), (3, .int v3), (4, .int v4), (5, .int (v5 + (1 : Int32)))]) [1, 2, 3, 4, 5, 0] rfl ?_
      exact hk_15 _ _ _ h
    intro v3 v4 v5 h
    unfold b_X2_bestLesson_15 at h
    refine g_iload C 17 5 dX2_bestLesson_15 rfl rfl ?_
    refine g_aload_n C 18 0 dX2_bestLesson_17 rfl rfl ?_
    refine g_get (v := .ref t) C 21 2 0 0 hin_2 rfl rfl (by decide) wf_X2_9 rfl dX2_bestLesson_18 rfl ?_
    refine g_get (v := .int (T.1 0)) C 24 6 1 0 hin_6 rfl rfl (by decide) wf_X2_31 rfl dX2_bestLesson_21 rfl ?_
    refine g_icmp_ge C 68 27 dX2_bestLesson_24 (by decide) rfl (fun c => ?_) (fun c => ?_)
    · have h := ifT c h
      refine g_iload C 70 4 dX2_bestLesson_68 rfl rfl ?_
      exact g_iret (st := []) C E dX2_bestLesson_70 (by obtain rfl := Option.some.inj h; exact ⟨rfl, rfl⟩)
    · have h := ifF c h
      refine g_iload_n C 28 2 dX2_bestLesson_27 rfl rfl ?_
      refine g_iload C 30 5 dX2_bestLesson_28 rfl rfl ?_
      refine bnd h (fun x2 e2 h => ?_)
      refine g_callNr C 33 [] [.int x2] (ct_X7_has L v2 v5 x2 e2) kX7_has kvX7_has wn_X2_35 [] rfl rfl rfl rfl rfl (Nat.le_of_ble_eq_true rfl) ⟨Nat.le_of_ble_eq_true rfl, Nat.le_of_ble_eq_true rfl⟩ ⟨Nat.zero_le _, Nat.zero_le _⟩ dX2_bestLesson_30 rfl ?_
      refine g_if_ne C 62 36 dX2_bestLesson_33 (by decide) rfl (fun c => ?_) (fun c => ?_)
      · have h := ifF c h
        exact J_62 _ _ _ h
      · have h := ifT c h
        refine g_aload_n C 37 0 dX2_bestLesson_36 rfl rfl ?_
        refine g_iload_n C 38 1 dX2_bestLesson_37 rfl rfl ?_
        refine g_iload_n C 39 2 dX2_bestLesson_38 rfl rfl ?_
        refine g_iconst C 40 (1 : Int32) dX2_bestLesson_39 rfl rfl ?_
        refine g_iload C 42 5 dX2_bestLesson_40 rfl rfl ?_
        refine g_ishl C 43 dX2_bestLesson_42 rfl ?_
        refine g_ior C 44 dX2_bestLesson_43 rfl ?_
        refine bnd h (fun x3 e3 h => ?_)
        refine g_callVr C 47 [] [.int x3] (ct_X2_passedKnowing L o t q T v1 (v2 ||| ((1 : Int32) <<< (v5 &&& 31))) x3 e3) kX2_passedKnowing kvX2_passedKnowing wl_X2_94 2 0 rfl rfl rfl [0, 1, 2, 3, 4, 5, 6, 7] rfl rfl rfl rfl rfl (Nat.le_of_ble_eq_true rfl) ⟨Nat.le_of_ble_eq_true rfl, Nat.le_of_ble_eq_true rfl⟩ ⟨Nat.zero_le _, Nat.zero_le _⟩ dX2_bestLesson_44 rfl ?_
        refine g_istore C 49 6 [(6, .int x3), (0, .ref o), (1, .int v1), (2, .int v2), (3, .int v3), (4, .int v4), (5, .int v5)] dX2_bestLesson_47 rfl 7 hNL (by decide) rfl ?_
        refine g_iload C 51 0 dX2_bestLesson_49 rfl rfl ?_
        refine g_iload_n C 52 4 dX2_bestLesson_51 rfl rfl ?_
        refine g_icmp_le C 62 55 dX2_bestLesson_52 (by decide) rfl (fun c => ?_) (fun c => ?_)
        · have h := ifT c h
          refine g_lv (lv' := [(0, .ref o), (1, .int v1), (2, .int v2), (3, .int v3), (4, .int v4), (5, .int v5)]) [1, 2, 3, 4, 5, 6] rfl ?_
          exact J_62 _ _ _ h
        · have h := ifF c h
          refine g_iload C 57 0 dX2_bestLesson_55 rfl rfl ?_
          refine g_istore_n C 58 3 [(3, .int x3), (6, .int x3), (0, .ref o), (1, .int v1), (2, .int v2), (4, .int v4), (5, .int v5)] dX2_bestLesson_57 rfl rfl 7 hNL (by decide) rfl ?_
          refine g_iload C 60 6 dX2_bestLesson_58 rfl rfl ?_
          refine g_istore C 62 4 [(4, .int v5), (3, .int x3), (6, .int x3), (0, .ref o), (1, .int v1), (2, .int v2), (5, .int v5)] dX2_bestLesson_60 rfl 7 hNL (by decide) rfl ?_
          refine g_lv (lv' := [(0, .ref o), (1, .int v1), (2, .int v2), (3, .int x3), (4, .int v5), (5, .int v5)]) [3, 4, 5, 1, 0, 6] rfl ?_
          exact J_62 _ _ _ h
  unfold f_X2_bestLesson at h
  refine g_aload_n C 1 0 dX2_bestLesson_0 rfl rfl ?_
  refine g_iload_n C 2 1 dX2_bestLesson_1 rfl rfl ?_
  refine bnd h (fun x1 e1 h => ?_)
  refine g_callVr C 5 [] [.int x1] (ct_X2_knownOf L o t q T v1 x1 e1) kX2_knownOf kvX2_knownOf wl_X2_53 2 0 rfl rfl rfl [0, 1, 2, 3, 4, 5, 6, 7] rfl rfl rfl rfl rfl (Nat.le_of_ble_eq_true rfl) ⟨Nat.le_of_ble_eq_true rfl, Nat.le_of_ble_eq_true rfl⟩ ⟨Nat.zero_le _, Nat.zero_le _⟩ dX2_bestLesson_2 rfl ?_
  refine g_istore_n C 6 2 [(2, .int x1), (0, .ref o), (1, .int v1)] dX2_bestLesson_5 rfl rfl 7 hNL (by decide) rfl ?_
  refine g_iconst C 7 (-1 : Int32) dX2_bestLesson_6 rfl rfl ?_
  refine g_istore_n C 8 3 [(3, .int (-1 : Int32)), (2, .int x1), (0, .ref o), (1, .int v1)] dX2_bestLesson_7 rfl rfl 7 hNL (by decide) rfl ?_
  refine g_bipush C 10 (-9 : Int32) dX2_bestLesson_8 rfl rfl ?_
  refine g_istore C 12 4 [(4, .int (-9 : Int32)), (3, .int (-1 : Int32)), (2, .int x1), (0, .ref o), (1, .int v1)] dX2_bestLesson_10 rfl 7 hNL (by decide) rfl ?_
  refine g_iconst C 13 (0 : Int32) dX2_bestLesson_12 rfl rfl ?_
  refine g_istore C 15 5 [(5, .int (0 : Int32)), (4, .int (-9 : Int32)), (3, .int (-1 : Int32)), (2, .int x1), (0, .ref o), (1, .int v1)] dX2_bestLesson_13 rfl 7 hNL (by decide) rfl ?_
  refine g_lv (lv' := [(0, .ref o), (1, .int v1), (2, .int x1), (3, .int (-1 : Int32)), (4, .int (-9 : Int32)), (5, .int (0 : Int32))]) [4, 5, 3, 2, 1, 0] rfl ?_
  exact J_15 _ _ _ _ _ _ h
set_option maxHeartbeats 4000000 in
set_option maxRecDepth 100000 in
theorem ct_X2_passedInRow (L : LL) (o : Nat) (t : Nat) (q : Nat → Nat) (T : OS) (v1 : Int32) (v2 : Int32) (x : Int32) (h : f_X2_passedInRow T v1 v2 = some x) : Ct L yX2_passedInRow cX2_passedInRow 7 (some .int) (rmk 3 0 0 72) 0 0 [.ref o, .int v1, .int v2] (cells2 L o t q T) (Pv (some (.int x)) (cells2 L o t q T)) := by
  refine g_enter (lv := [(0, .ref o), (1, .int v1), (2, .int v2)]) kX2_passedInRow rfl rfl (Nat.le_of_ble_eq_true rfl) (fun Γ C E hNL => ?_)
  have J_12 : ∀ (n : Nat) (v1 : Int32) (v2 : Int32) (v3 : Int32) (v4 : Int32) (v5 : Int32), Lp3 (b_X2_passedInRow_12 T  v1 v2) n v3 v4 v5 = some x → G L Γ 0 0 (cells2 L o t q T) 12 [(0, .ref o), (1, .int v1), (2, .int v2), (3, .int v3), (4, .int v4), (5, .int v5)] [] := by
    intro n v1 v2
    refine lp_ok3 (fun v3 v4 v5 => G L Γ 0 0 (cells2 L o t q T) 12 [(0, .ref o), (1, .int v1), (2, .int v2), (3, .int v3), (4, .int v4), (5, .int v5)] []) (fun k_12 hk_12 => ?_) n
    have J_77 : ∀ (v3 : Int32) (v4 : Int32) (v5 : Int32) (v6 : Int32), j_X2_passedInRow_77 T k_12 v1 v2 v3 v4 v5 v6 = some x → G L Γ 0 0 (cells2 L o t q T) 77 [(0, .ref o), (1, .int v1), (2, .int v2), (3, .int v3), (4, .int v4), (5, .int v5), (6, .int v6)] [] := by
      intro v3 v4 v5 v6 h
      unfold j_X2_passedInRow_77 at h
      refine g_iload_n C 78 3 dX2_passedInRow_77 rfl rfl ?_
      refine g_aload_n C 79 0 dX2_passedInRow_78 rfl rfl ?_
      refine g_get (v := .ref t) C 82 2 0 0 hin_2 rfl rfl (by decide) wf_X2_9 rfl dX2_passedInRow_79 rfl ?_
      refine g_get (v := .ref (q 9)) C 85 6 1 9 hin_6 rfl rfl (by decide) wf_X2_28 rfl dX2_passedInRow_82 rfl ?_
      refine g_iload C 87 6 dX2_passedInRow_85 rfl rfl ?_
      refine bnd h (fun x5 e5 h => ?_)
      refine g_callNr C 90 [.int v3] [.int x5, .int v3] (ct_X7_at L (q 9) 6 (T.2 9) v6 x5 e5) kX7_at kvX7_at wn_X2_21 [5] rfl rfl rfl rfl rfl (Nat.le_of_ble_eq_true rfl) ⟨Nat.le_of_ble_eq_true rfl, Nat.le_of_ble_eq_true rfl⟩ ⟨Nat.zero_le _, Nat.zero_le _⟩ dX2_passedInRow_87 rfl ?_
      refine g_ior C 91 dX2_passedInRow_90 rfl ?_
      refine g_istore_n C 92 3 [(3, .int (v3 ||| x5)), (0, .ref o), (1, .int v1), (2, .int v2), (4, .int v4), (5, .int v5), (6, .int v6)] dX2_passedInRow_91 rfl rfl 7 hNL (by decide) rfl ?_
      refine g_iinc C 95 (1 : Int32) 5 [(5, .int (v5 + (1 : Int32))), (3, .int (v3 ||| x5)), (0, .ref o), (1, .int v1), (2, .int v2), (4, .int v4), (6, .int v6)] dX2_passedInRow_92 rfl rfl 7 hNL (by decide) rfl rfl ?_
      refine g_goto C 12 dX2_passedInRow_95 (by decide) ?_
      refine g_lv (lv' := [(0, .ref o), (1, .int v1), (2, .int v2), (3, .int (v3 ||| x5)), (4, .int v4), (5, .int (v5 + (1 : Int32)))]) [2, 3, 4, 1, 5, 0] rfl ?_
      exact hk_12 _ _ _ h
    intro v3 v4 v5 h
    unfold b_X2_passedInRow_12 at h
    refine g_iload C 14 5 dX2_passedInRow_12 rfl rfl ?_
    refine g_iload_n C 15 2 dX2_passedInRow_14 rfl rfl ?_
    refine g_icmp_ge C 98 18 dX2_passedInRow_15 (by decide) rfl (fun c => ?_) (fun c => ?_)
    · have h := ifT c h
      refine g_iload C 100 4 dX2_passedInRow_98 rfl rfl ?_
      exact g_iret (st := []) C E dX2_passedInRow_100 (by obtain rfl := Option.some.inj h; exact ⟨rfl, rfl⟩)
    · have h := ifF c h
      refine g_aload_n C 19 0 dX2_passedInRow_18 rfl rfl ?_
      refine g_get (v := .ref t) C 22 2 0 0 hin_2 rfl rfl (by decide) wf_X2_9 rfl dX2_passedInRow_19 rfl ?_
      refine g_get (v := .int (T.1 1)) C 25 6 1 1 hin_6 rfl rfl (by decide) wf_X2_50 rfl dX2_passedInRow_22 rfl ?_
      refine g_if_le C 98 28 dX2_passedInRow_25 (by decide) rfl (fun c => ?_) (fun c => ?_)
      · have h := ifT c h
        refine g_iload C 100 4 dX2_passedInRow_98 rfl rfl ?_
        exact g_iret (st := []) C E dX2_passedInRow_100 (by obtain rfl := Option.some.inj h; exact ⟨rfl, rfl⟩)
      · have h := ifF c h
        refine g_iload C 30 5 dX2_passedInRow_28 rfl rfl ?_
        refine g_aload_n C 31 0 dX2_passedInRow_30 rfl rfl ?_
        refine g_get (v := .ref t) C 34 2 0 0 hin_2 rfl rfl (by decide) wf_X2_9 rfl dX2_passedInRow_31 rfl ?_
        refine g_get (v := .int (T.1 1)) C 37 6 1 1 hin_6 rfl rfl (by decide) wf_X2_50 rfl dX2_passedInRow_34 rfl ?_
        refine bnd h (fun x2 e2 h => ?_)
        refine g_callNr C 40 [] [.int x2] (ct_X7_remainder L v5 (T.1 1) x2 e2) kX7_remainder kvX7_remainder wn_X2_98 [] rfl rfl rfl rfl rfl (Nat.le_of_ble_eq_true rfl) ⟨Nat.le_of_ble_eq_true rfl, Nat.le_of_ble_eq_true rfl⟩ ⟨Nat.zero_le _, Nat.zero_le _⟩ dX2_passedInRow_37 rfl ?_
        refine g_istore C 42 6 [(6, .int x2), (0, .ref o), (1, .int v1), (2, .int v2), (3, .int v3), (4, .int v4), (5, .int v5)] dX2_passedInRow_40 rfl 7 hNL (by decide) rfl ?_
        refine g_aload_n C 43 1 dX2_passedInRow_42 rfl rfl ?_
        refine g_get (v := .ref t) C 46 2 0 0 hin_2 rfl rfl (by decide) wf_X2_9 rfl dX2_passedInRow_43 rfl ?_
        refine g_iload C 48 0 dX2_passedInRow_46 rfl rfl ?_
        refine g_aload_n C 49 1 dX2_passedInRow_48 rfl rfl ?_
        refine g_iload_n C 50 2 dX2_passedInRow_49 rfl rfl ?_
        refine bnd h (fun x3 e3 h => ?_)
        refine g_callVr C 53 [.int x2, .ref t] [.int x3, .int x2, .ref t] (ct_X2_skillOf L o t q T v1 x3 e3) kX2_skillOf kvX2_skillOf wl_X2_69 2 0 rfl rfl rfl [0, 1, 2, 3, 4, 5, 6, 7] rfl rfl rfl rfl rfl (Nat.le_of_ble_eq_true rfl) ⟨Nat.le_of_ble_eq_true rfl, Nat.le_of_ble_eq_true rfl⟩ ⟨Nat.zero_le _, Nat.zero_le _⟩ dX2_passedInRow_50 rfl ?_
        refine g_iload_n C 54 4 dX2_passedInRow_53 rfl rfl ?_
        refine g_aload_n C 55 1 dX2_passedInRow_54 rfl rfl ?_
        refine g_get (v := .ref t) C 58 2 0 0 hin_2 rfl rfl (by decide) wf_X2_9 rfl dX2_passedInRow_55 rfl ?_
        refine g_get (v := .int (T.1 3)) C 61 6 1 3 hin_6 rfl rfl (by decide) wf_X2_85 rfl dX2_passedInRow_58 rfl ?_
        refine bnd h (fun x4 e4 h => ?_)
        refine g_callVr C 64 [] [.int x4] (ct_X6_limitToPass L t q T x2 x3 v3 (T.1 3) x4 e4) kX6_limitToPass kvX6_limitToPass wl_X2_71 6 0 rfl rfl rfl [1, 2, 3, 4, 5, 6, 7] rfl rfl rfl rfl rfl (Nat.le_of_ble_eq_true rfl) ⟨Nat.le_of_ble_eq_true rfl, Nat.le_of_ble_eq_true rfl⟩ ⟨Nat.zero_le _, Nat.zero_le _⟩ dX2_passedInRow_61 rfl ?_
        refine g_aload_n C 65 1 dX2_passedInRow_64 rfl rfl ?_
        refine g_get (v := .ref t) C 68 2 0 0 hin_2 rfl rfl (by decide) wf_X2_9 rfl dX2_passedInRow_65 rfl ?_
        refine g_get (v := .int (T.1 4)) C 71 6 1 4 hin_6 rfl rfl (by decide) wf_X2_75 rfl dX2_passedInRow_68 rfl ?_
        refine g_icmp_gt C 77 74 dX2_passedInRow_71 (by decide) rfl (fun c => ?_) (fun c => ?_)
        · have h := ifT c h
          refine g_lv (lv' := [(0, .ref o), (1, .int v1), (2, .int v2), (3, .int v3), (4, .int v4), (5, .int v5), (6, .int x2)]) [1, 2, 3, 4, 5, 6, 0] rfl ?_
          exact J_77 _ _ _ _ h
        · have h := ifF c h
          refine g_iinc C 77 (1 : Int32) 5 [(4, .int (v4 + (1 : Int32))), (6, .int x2), (0, .ref o), (1, .int v1), (2, .int v2), (3, .int v3), (5, .int v5)] dX2_passedInRow_74 rfl rfl 7 hNL (by decide) rfl rfl ?_
          refine g_lv (lv' := [(0, .ref o), (1, .int v1), (2, .int v2), (3, .int v3), (4, .int (v4 + (1 : Int32))), (5, .int v5), (6, .int x2)]) [2, 3, 4, 5, 0, 6, 1] rfl ?_
          exact J_77 _ _ _ _ h
  unfold f_X2_passedInRow at h
  refine g_aload_n C 1 0 dX2_passedInRow_0 rfl rfl ?_
  refine g_iload_n C 2 1 dX2_passedInRow_1 rfl rfl ?_
  refine bnd h (fun x1 e1 h => ?_)
  refine g_callVr C 5 [] [.int x1] (ct_X2_knownOf L o t q T v1 x1 e1) kX2_knownOf kvX2_knownOf wl_X2_53 2 0 rfl rfl rfl [0, 1, 2, 3, 4, 5, 6, 7] rfl rfl rfl rfl rfl (Nat.le_of_ble_eq_true rfl) ⟨Nat.le_of_ble_eq_true rfl, Nat.le_of_ble_eq_true rfl⟩ ⟨Nat.zero_le _, Nat.zero_le _⟩ dX2_passedInRow_2 rfl ?_
  refine g_istore_n C 6 3 [(3, .int x1), (0, .ref o), (1, .int v1), (2, .int v2)] dX2_passedInRow_5 rfl rfl 7 hNL (by decide) rfl ?_
  refine g_iconst C 7 (0 : Int32) dX2_passedInRow_6 rfl rfl ?_
  refine g_istore C 9 4 [(4, .int (0 : Int32)), (3, .int x1), (0, .ref o), (1, .int v1), (2, .int v2)] dX2_passedInRow_7 rfl 7 hNL (by decide) rfl ?_
  refine g_iconst C 10 (0 : Int32) dX2_passedInRow_9 rfl rfl ?_
  refine g_istore C 12 5 [(5, .int (0 : Int32)), (4, .int (0 : Int32)), (3, .int x1), (0, .ref o), (1, .int v1), (2, .int v2)] dX2_passedInRow_10 rfl 7 hNL (by decide) rfl ?_
  refine g_lv (lv' := [(0, .ref o), (1, .int v1), (2, .int v2), (3, .int x1), (4, .int (0 : Int32)), (5, .int (0 : Int32))]) [3, 4, 5, 2, 1, 0] rfl ?_
  exact J_12 _ _ _ _ _ _ h
set_option maxHeartbeats 4000000 in
set_option maxRecDepth 100000 in
theorem ct_X3_sharedBy (L : LL) (o : Nat) (t : Nat) (q : Nat → Nat) (T : OS) (v1 : Int32) (v2 : Int32) (x : Int32) (h : f_X3_sharedBy T v1 v2 = some x) : Ct L yX3_sharedBy cX3_sharedBy 3 (some .int) (rmk 1 0 0 21) 0 0 [.ref o, .int v1, .int v2] (cells3 L o t q T) (Pv (some (.int x)) (cells3 L o t q T)) := by
  refine g_enter (lv := [(0, .ref o), (1, .int v1), (2, .int v2)]) kX3_sharedBy rfl rfl (Nat.le_of_ble_eq_true rfl) (fun Γ C E hNL => ?_)
  unfold f_X3_sharedBy at h
  refine g_aload_n C 1 0 dX3_sharedBy_0 rfl rfl ?_
  refine g_get (v := .ref t) C 4 3 0 0 hin_3 rfl rfl (by decide) wf_X3_9 rfl dX3_sharedBy_1 rfl ?_
  refine g_get (v := .ref (q 9)) C 7 6 1 9 hin_6 rfl rfl (by decide) wf_X3_15 rfl dX3_sharedBy_4 rfl ?_
  refine g_iload_n C 8 1 dX3_sharedBy_7 rfl rfl ?_
  refine bnd h (fun x1 e1 h => ?_)
  refine g_callNr C 11 [] [.int x1] (ct_X7_at L (q 9) 6 (T.2 9) v1 x1 e1) kX7_at kvX7_at wn_X3_21 [5] rfl rfl rfl rfl rfl (Nat.le_of_ble_eq_true rfl) ⟨Nat.le_of_ble_eq_true rfl, Nat.le_of_ble_eq_true rfl⟩ ⟨Nat.zero_le _, Nat.zero_le _⟩ dX3_sharedBy_8 rfl ?_
  refine g_aload_n C 12 0 dX3_sharedBy_11 rfl rfl ?_
  refine g_get (v := .ref t) C 15 3 0 0 hin_3 rfl rfl (by decide) wf_X3_9 rfl dX3_sharedBy_12 rfl ?_
  refine g_get (v := .ref (q 9)) C 18 6 1 9 hin_6 rfl rfl (by decide) wf_X3_15 rfl dX3_sharedBy_15 rfl ?_
  refine g_iload_n C 19 2 dX3_sharedBy_18 rfl rfl ?_
  refine bnd h (fun x2 e2 h => ?_)
  refine g_callNr C 22 [.int x1] [.int x2, .int x1] (ct_X7_at L (q 9) 6 (T.2 9) v2 x2 e2) kX7_at kvX7_at wn_X3_21 [5] rfl rfl rfl rfl rfl (Nat.le_of_ble_eq_true rfl) ⟨Nat.le_of_ble_eq_true rfl, Nat.le_of_ble_eq_true rfl⟩ ⟨Nat.zero_le _, Nat.zero_le _⟩ dX3_sharedBy_19 rfl ?_
  refine g_iand C 23 dX3_sharedBy_22 rfl ?_
  refine bnd h (fun x3 e3 h => ?_)
  refine g_callSr C 26 [] [.int x3] (ct_J6_bitCount_0f7a4 L (x1 &&& x2) x3 e3) kJ6_bitCount_0f7a4 kvJ6_bitCount_0f7a4 wl_X3_25 [] rfl rfl rfl rfl rfl (Nat.le_of_ble_eq_true rfl) ⟨Nat.le_of_ble_eq_true rfl, Nat.le_of_ble_eq_true rfl⟩ ⟨Nat.zero_le _, Nat.zero_le _⟩ dX3_sharedBy_23 rfl ?_
  exact g_iret (st := []) C E dX3_sharedBy_26 (by obtain rfl := Option.some.inj h; exact ⟨rfl, rfl⟩)
set_option maxHeartbeats 4000000 in
set_option maxRecDepth 100000 in
theorem ct_X3_mostAlikeTwo (L : LL) (o : Nat) (t : Nat) (q : Nat → Nat) (T : OS) (x : Int32) (h : f_X3_mostAlikeTwo T = some x) : Ct L yX3_mostAlikeTwo cX3_mostAlikeTwo 6 (some .int) (rmk 2 0 0 43) 0 0 [.ref o] (cells3 L o t q T) (Pv (some (.int x)) (cells3 L o t q T)) := by
  refine g_enter (lv := [(0, .ref o)]) kX3_mostAlikeTwo rfl rfl (Nat.le_of_ble_eq_true rfl) (fun Γ C E hNL => ?_)
  have J_7 : ∀ (n : Nat)  (v1 : Int32) (v2 : Int32) (v3 : Int32), Lp3 (b_X3_mostAlikeTwo_7 T  ) n v1 v2 v3 = some x → G L Γ 0 0 (cells3 L o t q T) 7 [(0, .ref o), (1, .int v1), (2, .int v2), (3, .int v3)] [] := by
    intro n 
    refine lp_ok3 (fun v1 v2 v3 => G L Γ 0 0 (cells3 L o t q T) 7 [(0, .ref o), (1, .int v1), (2, .int v2), (3, .int v3)] []) (fun k_7 hk_7 => ?_) n
    have J_67 : ∀ (v1 : Int32) (v2 : Int32) (v3 : Int32), j_X3_mostAlikeTwo_67 T k_7 v1 v2 v3 = some x → G L Γ 0 0 (cells3 L o t q T) 67 [(0, .ref o), (1, .int v1), (2, .int v2), (3, .int v3)] [] := by
      intro v1 v2 v3 h
      unfold j_X3_mostAlikeTwo_67 at h
      refine g_iinc C 70 (1 : Int32) 3 [(3, .int (v3 + (1 : Int32))), (0, .ref o), (1, .int v1), (2, .int v2)] dX3_mostAlikeTwo_67 rfl rfl 6 hNL (by decide) rfl rfl ?_
      refine g_goto C 7 dX3_mostAlikeTwo_70 (by decide) ?_
      refine g_lv (lv' := [(0, .ref o), (1, .int v1), (2, .int v2), (3, .int (v3 + (1 : Int32)))]) [1, 2, 3, 0] rfl ?_
      exact hk_7 _ _ _ h
    have J_23 : ∀ (n : Nat) (v3 : Int32) (v1 : Int32) (v2 : Int32) (v4 : Int32), Lp3 (b_X3_mostAlikeTwo_23 T k_7 v3) n v1 v2 v4 = some x → G L Γ 0 0 (cells3 L o t q T) 23 [(0, .ref o), (1, .int v1), (2, .int v2), (3, .int v3), (4, .int v4)] [] := by
      intro n v3
      refine lp_ok3 (fun v1 v2 v4 => G L Γ 0 0 (cells3 L o t q T) 23 [(0, .ref o), (1, .int v1), (2, .int v2), (3, .int v3), (4, .int v4)] []) (fun k_23 hk_23 => ?_) n
      have J_61 : ∀ (v1 : Int32) (v2 : Int32) (v4 : Int32), j_X3_mostAlikeTwo_61 T k_7 k_23 v1 v2 v3 v4 = some x → G L Γ 0 0 (cells3 L o t q T) 61 [(0, .ref o), (1, .int v1), (2, .int v2), (3, .int v3), (4, .int v4)] [] := by
        intro v1 v2 v4 h
        unfold j_X3_mostAlikeTwo_61 at h
        refine g_iinc C 64 (1 : Int32) 4 [(4, .int (v4 + (1 : Int32))), (0, .ref o), (1, .int v1), (2, .int v2), (3, .int v3)] dX3_mostAlikeTwo_61 rfl rfl 6 hNL (by decide) rfl rfl ?_
        refine g_goto C 23 dX3_mostAlikeTwo_64 (by decide) ?_
        refine g_lv (lv' := [(0, .ref o), (1, .int v1), (2, .int v2), (3, .int v3), (4, .int (v4 + (1 : Int32)))]) [1, 2, 3, 4, 0] rfl ?_
        exact hk_23 _ _ _ h
      intro v1 v2 v4 h
      unfold b_X3_mostAlikeTwo_23 at h
      refine g_iload C 25 4 dX3_mostAlikeTwo_23 rfl rfl ?_
      refine g_aload_n C 26 0 dX3_mostAlikeTwo_25 rfl rfl ?_
      refine g_get (v := .ref t) C 29 3 0 0 hin_3 rfl rfl (by decide) wf_X3_9 rfl dX3_mostAlikeTwo_26 rfl ?_
      refine g_get (v := .int (T.1 1)) C 32 6 1 1 hin_6 rfl rfl (by decide) wf_X3_31 rfl dX3_mostAlikeTwo_29 rfl ?_
      refine g_icmp_ge C 67 35 dX3_mostAlikeTwo_32 (by decide) rfl (fun c => ?_) (fun c => ?_)
      · have h := ifT c h
        refine g_lv (lv' := [(0, .ref o), (1, .int v1), (2, .int v2), (3, .int v3)]) [0, 1, 2, 3] rfl ?_
        exact J_67 _ _ _ h
      · have h := ifF c h
        refine g_aload_n C 36 0 dX3_mostAlikeTwo_35 rfl rfl ?_
        refine g_iload_n C 37 3 dX3_mostAlikeTwo_36 rfl rfl ?_
        refine g_iload C 39 4 dX3_mostAlikeTwo_37 rfl rfl ?_
        refine bnd h (fun x1 e1 h => ?_)
        refine g_callVr C 42 [] [.int x1] (ct_X3_sharedBy L o t q T v3 v4 x1 e1) kX3_sharedBy kvX3_sharedBy wl_X3_35 3 0 rfl rfl rfl [0, 1, 2, 3, 4, 5, 6, 7] rfl rfl rfl rfl rfl (Nat.le_of_ble_eq_true rfl) ⟨Nat.le_of_ble_eq_true rfl, Nat.le_of_ble_eq_true rfl⟩ ⟨Nat.zero_le _, Nat.zero_le _⟩ dX3_mostAlikeTwo_39 rfl ?_
        refine g_istore C 44 5 [(5, .int x1), (0, .ref o), (1, .int v1), (2, .int v2), (3, .int v3), (4, .int v4)] dX3_mostAlikeTwo_42 rfl 6 hNL (by decide) rfl ?_
        refine g_iload C 46 0 dX3_mostAlikeTwo_44 rfl rfl ?_
        refine g_iload_n C 47 2 dX3_mostAlikeTwo_46 rfl rfl ?_
        refine g_icmp_le C 61 50 dX3_mostAlikeTwo_47 (by decide) rfl (fun c => ?_) (fun c => ?_)
        · have h := ifT c h
          refine g_lv (lv' := [(0, .ref o), (1, .int v1), (2, .int v2), (3, .int v3), (4, .int v4)]) [1, 2, 3, 4, 5] rfl ?_
          exact J_61 _ _ _ h
        · have h := ifF c h
          refine g_iload C 52 0 dX3_mostAlikeTwo_50 rfl rfl ?_
          refine g_istore_n C 53 1 [(1, .int x1), (5, .int x1), (0, .ref o), (2, .int v2), (3, .int v3), (4, .int v4)] dX3_mostAlikeTwo_52 rfl rfl 6 hNL (by decide) rfl ?_
          refine g_bipush C 55 (10 : Int32) dX3_mostAlikeTwo_53 rfl rfl ?_
          refine g_iload_n C 56 4 dX3_mostAlikeTwo_55 rfl rfl ?_
          refine g_imul C 57 dX3_mostAlikeTwo_56 rfl ?_
          refine g_iload C 59 5 dX3_mostAlikeTwo_57 rfl rfl ?_
          refine g_iadd C 60 dX3_mostAlikeTwo_59 rfl ?_
          refine g_istore_n C 61 2 [(2, .int (((10 : Int32) * v3) + v4)), (1, .int x1), (5, .int x1), (0, .ref o), (3, .int v3), (4, .int v4)] dX3_mostAlikeTwo_60 rfl rfl 6 hNL (by decide) rfl ?_
          refine g_lv (lv' := [(0, .ref o), (1, .int x1), (2, .int (((10 : Int32) * v3) + v4)), (3, .int v3), (4, .int v4)]) [3, 1, 0, 4, 5] rfl ?_
          exact J_61 _ _ _ h
    intro v1 v2 v3 h
    unfold b_X3_mostAlikeTwo_7 at h
    refine g_iload_n C 8 3 dX3_mostAlikeTwo_7 rfl rfl ?_
    refine g_aload_n C 9 0 dX3_mostAlikeTwo_8 rfl rfl ?_
    refine g_get (v := .ref t) C 12 3 0 0 hin_3 rfl rfl (by decide) wf_X3_9 rfl dX3_mostAlikeTwo_9 rfl ?_
    refine g_get (v := .int (T.1 1)) C 15 6 1 1 hin_6 rfl rfl (by decide) wf_X3_31 rfl dX3_mostAlikeTwo_12 rfl ?_
    refine g_icmp_ge C 73 18 dX3_mostAlikeTwo_15 (by decide) rfl (fun c => ?_) (fun c => ?_)
    · have h := ifT c h
      refine g_iload_n C 74 2 dX3_mostAlikeTwo_73 rfl rfl ?_
      exact g_iret (st := []) C E dX3_mostAlikeTwo_74 (by obtain rfl := Option.some.inj h; exact ⟨rfl, rfl⟩)
    · have h := ifF c h
      refine g_iload_n C 19 3 dX3_mostAlikeTwo_18 rfl rfl ?_
      refine g_iconst C 20 (1 : Int32) dX3_mostAlikeTwo_19 rfl rfl ?_
      refine g_iadd C 21 dX3_mostAlikeTwo_20 rfl ?_
      refine g_istore C 23 4 [(4, .int (v3 + (1 : Int32))), (0, .ref o), (1, .int v1), (2, .int v2), (3, .int v3)] dX3_mostAlikeTwo_21 rfl 6 hNL (by decide) rfl ?_
      refine g_lv (lv' := [(0, .ref o), (1, .int v1), (2, .int v2), (3, .int v3), (4, .int (v3 + (1 : Int32)))]) [1, 2, 3, 4, 0] rfl ?_
      exact J_23 _ _ _ _ _ h
  unfold f_X3_mostAlikeTwo at h
  refine g_iconst C 1 (-1 : Int32) dX3_mostAlikeTwo_0 rfl rfl ?_
  refine g_istore_n C 2 1 [(1, .int (-1 : Int32)), (0, .ref o)] dX3_mostAlikeTwo_1 rfl rfl 6 hNL (by decide) rfl ?_
  refine g_bipush C 4 (-9 : Int32) dX3_mostAlikeTwo_2 rfl rfl ?_
  refine g_istore_n C 5 2 [(2, .int (-9 : Int32)), (1, .int (-1 : Int32)), (0, .ref o)] dX3_mostAlikeTwo_4 rfl rfl 6 hNL (by decide) rfl ?_
  refine g_iconst C 6 (0 : Int32) dX3_mostAlikeTwo_5 rfl rfl ?_
  refine g_istore_n C 7 3 [(3, .int (0 : Int32)), (2, .int (-9 : Int32)), (1, .int (-1 : Int32)), (0, .ref o)] dX3_mostAlikeTwo_6 rfl rfl 6 hNL (by decide) rfl ?_
  refine g_lv (lv' := [(0, .ref o), (1, .int (-1 : Int32)), (2, .int (-9 : Int32)), (3, .int (0 : Int32))]) [3, 2, 1, 0] rfl ?_
  exact J_7 _ _ _ _ h
set_option maxHeartbeats 4000000 in
set_option maxRecDepth 100000 in
theorem ct_X3_kindsOfTwo (L : LL) (o : Nat) (t : Nat) (q : Nat → Nat) (T : OS) (v1 : Int32) (v2 : Int32) (x : Int32) (h : f_X3_kindsOfTwo T v1 v2 = some x) : Ct L yX3_kindsOfTwo cX3_kindsOfTwo 3 (some .int) (rmk 2 0 0 44) 0 0 [.ref o, .int v1, .int v2] (cells3 L o t q T) (Pv (some (.int x)) (cells3 L o t q T)) := by
  refine g_enter (lv := [(0, .ref o), (1, .int v1), (2, .int v2)]) kX3_kindsOfTwo rfl rfl (Nat.le_of_ble_eq_true rfl) (fun Γ C E hNL => ?_)
  unfold f_X3_kindsOfTwo at h
  refine g_aload_n C 1 0 dX3_kindsOfTwo_0 rfl rfl ?_
  refine g_get (v := .ref t) C 4 3 0 0 hin_3 rfl rfl (by decide) wf_X3_9 rfl dX3_kindsOfTwo_1 rfl ?_
  refine g_aload_n C 5 0 dX3_kindsOfTwo_4 rfl rfl ?_
  refine g_get (v := .ref t) C 8 3 0 0 hin_3 rfl rfl (by decide) wf_X3_9 rfl dX3_kindsOfTwo_5 rfl ?_
  refine g_get (v := .ref (q 9)) C 11 6 1 9 hin_6 rfl rfl (by decide) wf_X3_15 rfl dX3_kindsOfTwo_8 rfl ?_
  refine g_iload_n C 12 1 dX3_kindsOfTwo_11 rfl rfl ?_
  refine bnd h (fun x1 e1 h => ?_)
  refine g_callNr C 15 [.ref t] [.int x1, .ref t] (ct_X7_at L (q 9) 6 (T.2 9) v1 x1 e1) kX7_at kvX7_at wn_X3_21 [5] rfl rfl rfl rfl rfl (Nat.le_of_ble_eq_true rfl) ⟨Nat.le_of_ble_eq_true rfl, Nat.le_of_ble_eq_true rfl⟩ ⟨Nat.zero_le _, Nat.zero_le _⟩ dX3_kindsOfTwo_12 rfl ?_
  refine g_aload_n C 16 0 dX3_kindsOfTwo_15 rfl rfl ?_
  refine g_get (v := .ref t) C 19 3 0 0 hin_3 rfl rfl (by decide) wf_X3_9 rfl dX3_kindsOfTwo_16 rfl ?_
  refine g_get (v := .ref (q 9)) C 22 6 1 9 hin_6 rfl rfl (by decide) wf_X3_15 rfl dX3_kindsOfTwo_19 rfl ?_
  refine g_iload_n C 23 2 dX3_kindsOfTwo_22 rfl rfl ?_
  refine bnd h (fun x2 e2 h => ?_)
  refine g_callNr C 26 [.int x1, .ref t] [.int x2, .int x1, .ref t] (ct_X7_at L (q 9) 6 (T.2 9) v2 x2 e2) kX7_at kvX7_at wn_X3_21 [5] rfl rfl rfl rfl rfl (Nat.le_of_ble_eq_true rfl) ⟨Nat.le_of_ble_eq_true rfl, Nat.le_of_ble_eq_true rfl⟩ ⟨Nat.zero_le _, Nat.zero_le _⟩ dX3_kindsOfTwo_23 rfl ?_
  refine g_ior C 27 dX3_kindsOfTwo_26 rfl ?_
  refine bnd h (fun x3 e3 h => ?_)
  refine g_callVr C 30 [] [.int x3] (ct_X6_kindsOn L t q T (x1 ||| x2) x3 e3) kX6_kindsOn kvX6_kindsOn wl_X3_43 6 0 rfl rfl rfl [1, 2, 3, 4, 5, 6, 7] rfl rfl rfl rfl rfl (Nat.le_of_ble_eq_true rfl) ⟨Nat.le_of_ble_eq_true rfl, Nat.le_of_ble_eq_true rfl⟩ ⟨Nat.zero_le _, Nat.zero_le _⟩ dX3_kindsOfTwo_27 rfl ?_
  exact g_iret (st := []) C E dX3_kindsOfTwo_30 (by obtain rfl := Option.some.inj h; exact ⟨rfl, rfl⟩)
set_option maxHeartbeats 4000000 in
set_option maxRecDepth 100000 in
theorem ct_X3_mostUnlikeTwo (L : LL) (o : Nat) (t : Nat) (q : Nat → Nat) (T : OS) (x : Int32) (h : f_X3_mostUnlikeTwo T = some x) : Ct L yX3_mostUnlikeTwo cX3_mostUnlikeTwo 7 (some .int) (rmk 3 0 0 66) 0 0 [.ref o] (cells3 L o t q T) (Pv (some (.int x)) (cells3 L o t q T)) := by
  refine g_enter (lv := [(0, .ref o)]) kX3_mostUnlikeTwo rfl rfl (Nat.le_of_ble_eq_true rfl) (fun Γ C E hNL => ?_)
  have J_25 : ∀ (n : Nat) (v1 : Int32) (v2 : Int32) (v3 : Int32) (v4 : Int32), Lp3 (b_X3_mostUnlikeTwo_25 T  v1) n v2 v3 v4 = some x → G L Γ 0 0 (cells3 L o t q T) 25 [(0, .ref o), (1, .int v1), (2, .int v2), (3, .int v3), (4, .int v4)] [] := by
    intro n v1
    refine lp_ok3 (fun v2 v3 v4 => G L Γ 0 0 (cells3 L o t q T) 25 [(0, .ref o), (1, .int v1), (2, .int v2), (3, .int v3), (4, .int v4)] []) (fun k_25 hk_25 => ?_) n
    have J_101 : ∀ (v2 : Int32) (v3 : Int32) (v4 : Int32), j_X3_mostUnlikeTwo_101 T k_25 v1 v2 v3 v4 = some x → G L Γ 0 0 (cells3 L o t q T) 101 [(0, .ref o), (1, .int v1), (2, .int v2), (3, .int v3), (4, .int v4)] [] := by
      intro v2 v3 v4 h
      unfold j_X3_mostUnlikeTwo_101 at h
      refine g_iinc C 104 (1 : Int32) 4 [(4, .int (v4 + (1 : Int32))), (0, .ref o), (1, .int v1), (2, .int v2), (3, .int v3)] dX3_mostUnlikeTwo_101 rfl rfl 7 hNL (by decide) rfl rfl ?_
      refine g_goto C 25 dX3_mostUnlikeTwo_104 (by decide) ?_
      refine g_lv (lv' := [(0, .ref o), (1, .int v1), (2, .int v2), (3, .int v3), (4, .int (v4 + (1 : Int32)))]) [1, 2, 3, 4, 0] rfl ?_
      exact hk_25 _ _ _ h
    have J_43 : ∀ (n : Nat) (v4 : Int32) (v2 : Int32) (v3 : Int32) (v5 : Int32), Lp3 (b_X3_mostUnlikeTwo_43 T k_25 v1 v4) n v2 v3 v5 = some x → G L Γ 0 0 (cells3 L o t q T) 43 [(0, .ref o), (1, .int v1), (2, .int v2), (3, .int v3), (4, .int v4), (5, .int v5)] [] := by
      intro n v4
      refine lp_ok3 (fun v2 v3 v5 => G L Γ 0 0 (cells3 L o t q T) 43 [(0, .ref o), (1, .int v1), (2, .int v2), (3, .int v3), (4, .int v4), (5, .int v5)] []) (fun k_43 hk_43 => ?_) n
      have J_95 : ∀ (v2 : Int32) (v3 : Int32) (v5 : Int32), j_X3_mostUnlikeTwo_95 T k_25 k_43 v1 v2 v3 v4 v5 = some x → G L Γ 0 0 (cells3 L o t q T) 95 [(0, .ref o), (1, .int v1), (2, .int v2), (3, .int v3), (4, .int v4), (5, .int v5)] [] := by
        intro v2 v3 v5 h
        unfold j_X3_mostUnlikeTwo_95 at h
        refine g_iinc C 98 (1 : Int32) 5 [(5, .int (v5 + (1 : Int32))), (0, .ref o), (1, .int v1), (2, .int v2), (3, .int v3), (4, .int v4)] dX3_mostUnlikeTwo_95 rfl rfl 7 hNL (by decide) rfl rfl ?_
        refine g_goto C 43 dX3_mostUnlikeTwo_98 (by decide) ?_
        refine g_lv (lv' := [(0, .ref o), (1, .int v1), (2, .int v2), (3, .int v3), (4, .int v4), (5, .int (v5 + (1 : Int32)))]) [1, 2, 3, 4, 5, 0] rfl ?_
        exact hk_43 _ _ _ h
      intro v2 v3 v5 h
      unfold b_X3_mostUnlikeTwo_43 at h
      refine g_iload C 45 5 dX3_mostUnlikeTwo_43 rfl rfl ?_
      refine g_aload_n C 46 0 dX3_mostUnlikeTwo_45 rfl rfl ?_
      refine g_get (v := .ref t) C 49 3 0 0 hin_3 rfl rfl (by decide) wf_X3_9 rfl dX3_mostUnlikeTwo_46 rfl ?_
      refine g_get (v := .int (T.1 1)) C 52 6 1 1 hin_6 rfl rfl (by decide) wf_X3_31 rfl dX3_mostUnlikeTwo_49 rfl ?_
      refine g_icmp_ge C 101 55 dX3_mostUnlikeTwo_52 (by decide) rfl (fun c => ?_) (fun c => ?_)
      · have h := ifT c h
        refine g_lv (lv' := [(0, .ref o), (1, .int v1), (2, .int v2), (3, .int v3), (4, .int v4)]) [0, 1, 2, 3, 4] rfl ?_
        exact J_101 _ _ _ h
      · have h := ifF c h
        refine g_aload_n C 56 0 dX3_mostUnlikeTwo_55 rfl rfl ?_
        refine g_iload C 58 4 dX3_mostUnlikeTwo_56 rfl rfl ?_
        refine g_iload C 60 5 dX3_mostUnlikeTwo_58 rfl rfl ?_
        refine bnd h (fun x3 e3 h => ?_)
        refine g_callVr C 63 [] [.int x3] (ct_X3_sharedBy L o t q T v4 v5 x3 e3) kX3_sharedBy kvX3_sharedBy wl_X3_35 3 0 rfl rfl rfl [0, 1, 2, 3, 4, 5, 6, 7] rfl rfl rfl rfl rfl (Nat.le_of_ble_eq_true rfl) ⟨Nat.le_of_ble_eq_true rfl, Nat.le_of_ble_eq_true rfl⟩ ⟨Nat.zero_le _, Nat.zero_le _⟩ dX3_mostUnlikeTwo_60 rfl ?_
        refine g_istore C 65 6 [(6, .int x3), (0, .ref o), (1, .int v1), (2, .int v2), (3, .int v3), (4, .int v4), (5, .int v5)] dX3_mostUnlikeTwo_63 rfl 7 hNL (by decide) rfl ?_
        refine g_iload C 67 0 dX3_mostUnlikeTwo_65 rfl rfl ?_
        refine g_iload_n C 68 3 dX3_mostUnlikeTwo_67 rfl rfl ?_
        refine g_icmp_ge C 95 71 dX3_mostUnlikeTwo_68 (by decide) rfl (fun c => ?_) (fun c => ?_)
        · have h := ifT c h
          refine g_lv (lv' := [(0, .ref o), (1, .int v1), (2, .int v2), (3, .int v3), (4, .int v4), (5, .int v5)]) [1, 2, 3, 4, 5, 6] rfl ?_
          exact J_95 _ _ _ h
        · have h := ifF c h
          refine g_aload_n C 72 1 dX3_mostUnlikeTwo_71 rfl rfl ?_
          refine g_iload C 74 5 dX3_mostUnlikeTwo_72 rfl rfl ?_
          refine g_iload C 76 6 dX3_mostUnlikeTwo_74 rfl rfl ?_
          refine bnd h (fun x4 e4 h => ?_)
          refine g_callVr C 79 [] [.int x4] (ct_X3_kindsOfTwo L o t q T v4 v5 x4 e4) kX3_kindsOfTwo kvX3_kindsOfTwo wl_X3_46 3 0 rfl rfl rfl [0, 1, 2, 3, 4, 5, 6, 7] rfl rfl rfl rfl rfl (Nat.le_of_ble_eq_true rfl) ⟨Nat.le_of_ble_eq_true rfl, Nat.le_of_ble_eq_true rfl⟩ ⟨Nat.zero_le _, Nat.zero_le _⟩ dX3_mostUnlikeTwo_76 rfl ?_
          refine g_iload_n C 80 2 dX3_mostUnlikeTwo_79 rfl rfl ?_
          refine g_icmp_ne C 95 83 dX3_mostUnlikeTwo_80 (by decide) rfl (fun c => ?_) (fun c => ?_)
          · have h := ifF c h
            refine g_lv (lv' := [(0, .ref o), (1, .int v1), (2, .int v2), (3, .int v3), (4, .int v4), (5, .int v5)]) [1, 2, 3, 4, 5, 6] rfl ?_
            exact J_95 _ _ _ h
          · have h := ifT c h
            refine g_iload C 85 0 dX3_mostUnlikeTwo_83 rfl rfl ?_
            refine g_istore_n C 86 2 [(2, .int x3), (6, .int x3), (0, .ref o), (1, .int v1), (3, .int v3), (4, .int v4), (5, .int v5)] dX3_mostUnlikeTwo_85 rfl rfl 7 hNL (by decide) rfl ?_
            refine g_bipush C 88 (10 : Int32) dX3_mostUnlikeTwo_86 rfl rfl ?_
            refine g_iload C 90 5 dX3_mostUnlikeTwo_88 rfl rfl ?_
            refine g_imul C 91 dX3_mostUnlikeTwo_90 rfl ?_
            refine g_iload C 93 6 dX3_mostUnlikeTwo_91 rfl rfl ?_
            refine g_iadd C 94 dX3_mostUnlikeTwo_93 rfl ?_
            refine g_istore_n C 95 3 [(3, .int (((10 : Int32) * v4) + v5)), (2, .int x3), (6, .int x3), (0, .ref o), (1, .int v1), (4, .int v4), (5, .int v5)] dX3_mostUnlikeTwo_94 rfl rfl 7 hNL (by decide) rfl ?_
            refine g_lv (lv' := [(0, .ref o), (1, .int v1), (2, .int x3), (3, .int (((10 : Int32) * v4) + v5)), (4, .int v4), (5, .int v5)]) [3, 4, 1, 0, 5, 6] rfl ?_
            exact J_95 _ _ _ h
    intro v2 v3 v4 h
    unfold b_X3_mostUnlikeTwo_25 at h
    refine g_iload C 27 4 dX3_mostUnlikeTwo_25 rfl rfl ?_
    refine g_aload_n C 28 0 dX3_mostUnlikeTwo_27 rfl rfl ?_
    refine g_get (v := .ref t) C 31 3 0 0 hin_3 rfl rfl (by decide) wf_X3_9 rfl dX3_mostUnlikeTwo_28 rfl ?_
    refine g_get (v := .int (T.1 1)) C 34 6 1 1 hin_6 rfl rfl (by decide) wf_X3_31 rfl dX3_mostUnlikeTwo_31 rfl ?_
    refine g_icmp_ge C 107 37 dX3_mostUnlikeTwo_34 (by decide) rfl (fun c => ?_) (fun c => ?_)
    · have h := ifT c h
      refine g_iload_n C 108 3 dX3_mostUnlikeTwo_107 rfl rfl ?_
      exact g_iret (st := []) C E dX3_mostUnlikeTwo_108 (by obtain rfl := Option.some.inj h; exact ⟨rfl, rfl⟩)
    · have h := ifF c h
      refine g_iload C 39 4 dX3_mostUnlikeTwo_37 rfl rfl ?_
      refine g_iconst C 40 (1 : Int32) dX3_mostUnlikeTwo_39 rfl rfl ?_
      refine g_iadd C 41 dX3_mostUnlikeTwo_40 rfl ?_
      refine g_istore C 43 5 [(5, .int (v4 + (1 : Int32))), (0, .ref o), (1, .int v1), (2, .int v2), (3, .int v3), (4, .int v4)] dX3_mostUnlikeTwo_41 rfl 7 hNL (by decide) rfl ?_
      refine g_lv (lv' := [(0, .ref o), (1, .int v1), (2, .int v2), (3, .int v3), (4, .int v4), (5, .int (v4 + (1 : Int32)))]) [1, 2, 3, 4, 5, 0] rfl ?_
      exact J_43 _ _ _ _ _ h
  unfold f_X3_mostUnlikeTwo at h
  refine g_aload_n C 1 0 dX3_mostUnlikeTwo_0 rfl rfl ?_
  refine g_get (v := .ref t) C 4 3 0 0 hin_3 rfl rfl (by decide) wf_X3_9 rfl dX3_mostUnlikeTwo_1 rfl ?_
  refine g_aload_n C 5 0 dX3_mostUnlikeTwo_4 rfl rfl ?_
  refine g_get (v := .ref t) C 8 3 0 0 hin_3 rfl rfl (by decide) wf_X3_9 rfl dX3_mostUnlikeTwo_5 rfl ?_
  refine bnd h (fun x1 e1 h => ?_)
  refine g_callVr C 11 [.ref t] [.int x1, .ref t] (ct_X6_allStreets L t q T x1 e1) kX6_allStreets kvX6_allStreets wl_X3_39 6 0 rfl rfl rfl [1, 2, 3, 4, 5, 6, 7] rfl rfl rfl rfl rfl (Nat.le_of_ble_eq_true rfl) ⟨Nat.le_of_ble_eq_true rfl, Nat.le_of_ble_eq_true rfl⟩ ⟨Nat.zero_le _, Nat.zero_le _⟩ dX3_mostUnlikeTwo_8 rfl ?_
  refine bnd h (fun x2 e2 h => ?_)
  refine g_callVr C 14 [] [.int x2] (ct_X6_kindsOn L t q T x1 x2 e2) kX6_kindsOn kvX6_kindsOn wl_X3_43 6 0 rfl rfl rfl [1, 2, 3, 4, 5, 6, 7] rfl rfl rfl rfl rfl (Nat.le_of_ble_eq_true rfl) ⟨Nat.le_of_ble_eq_true rfl, Nat.le_of_ble_eq_true rfl⟩ ⟨Nat.zero_le _, Nat.zero_le _⟩ dX3_mostUnlikeTwo_11 rfl ?_
  refine g_istore_n C 15 1 [(1, .int x2), (0, .ref o)] dX3_mostUnlikeTwo_14 rfl rfl 7 hNL (by decide) rfl ?_
  refine g_sipush C 18 (1000 : Int32) dX3_mostUnlikeTwo_15 rfl rfl ?_
  refine g_istore_n C 19 2 [(2, .int (1000 : Int32)), (1, .int x2), (0, .ref o)] dX3_mostUnlikeTwo_18 rfl rfl 7 hNL (by decide) rfl ?_
  refine g_bipush C 21 (-9 : Int32) dX3_mostUnlikeTwo_19 rfl rfl ?_
  refine g_istore_n C 22 3 [(3, .int (-9 : Int32)), (2, .int (1000 : Int32)), (1, .int x2), (0, .ref o)] dX3_mostUnlikeTwo_21 rfl rfl 7 hNL (by decide) rfl ?_
  refine g_iconst C 23 (0 : Int32) dX3_mostUnlikeTwo_22 rfl rfl ?_
  refine g_istore C 25 4 [(4, .int (0 : Int32)), (3, .int (-9 : Int32)), (2, .int (1000 : Int32)), (1, .int x2), (0, .ref o)] dX3_mostUnlikeTwo_23 rfl 7 hNL (by decide) rfl ?_
  refine g_lv (lv' := [(0, .ref o), (1, .int x2), (2, .int (1000 : Int32)), (3, .int (-9 : Int32)), (4, .int (0 : Int32))]) [4, 3, 2, 1, 0] rfl ?_
  exact J_25 _ _ _ _ _ h
set_option maxHeartbeats 4000000 in
set_option maxRecDepth 100000 in
theorem ct_X3_apart (L : LL) (o : Nat) (t : Nat) (q : Nat → Nat) (T : OS) (v1 : Int32) (v2 : Int32) (x : Int32) (h : f_X3_apart T v1 v2 = some x) : Ct L yX3_apart cX3_apart 7 (some .int) (rmk 3 0 0 68) 0 0 [.ref o, .int v1, .int v2] (cells3 L o t q T) (Pv (some (.int x)) (cells3 L o t q T)) := by
  refine g_enter (lv := [(0, .ref o), (1, .int v1), (2, .int v2)]) kX3_apart rfl rfl (Nat.le_of_ble_eq_true rfl) (fun Γ C E hNL => ?_)
  have J_10 : ∀ (n : Nat) (v1 : Int32) (v2 : Int32) (v3 : Int32) (v4 : Int32) (v5 : Int32), Lp3 (b_X3_apart_10 T  v1 v2) n v3 v4 v5 = some x → G L Γ 0 0 (cells3 L o t q T) 10 [(0, .ref o), (1, .int v1), (2, .int v2), (3, .int v3), (4, .int v4), (5, .int v5)] [] := by
    intro n v1 v2
    refine lp_ok3 (fun v3 v4 v5 => G L Γ 0 0 (cells3 L o t q T) 10 [(0, .ref o), (1, .int v1), (2, .int v2), (3, .int v3), (4, .int v4), (5, .int v5)] []) (fun k_10 hk_10 => ?_) n
    have J_69 : ∀ (v3 : Int32) (v4 : Int32) (v5 : Int32), j_X3_apart_69 T k_10 v1 v2 v3 v4 v5 = some x → G L Γ 0 0 (cells3 L o t q T) 69 [(0, .ref o), (1, .int v1), (2, .int v2), (3, .int v3), (4, .int v4), (5, .int v5)] [] := by
      intro v3 v4 v5 h
      unfold j_X3_apart_69 at h
      refine g_iinc C 72 (1 : Int32) 5 [(5, .int (v5 + (1 : Int32))), (0, .ref o), (1, .int v1), (2, .int v2), (3, .int v3), (4, .int v4)] dX3_apart_69 rfl rfl 7 hNL (by decide) rfl rfl ?_
      refine g_goto C 10 dX3_apart_72 (by decide) ?_
      refine g_lv (lv' := [(0, .ref o), (1, .int v1), (2, .int v2), (3, .int v3), (4, .int v4), (5, .int (v5 + (1 : Int32)))]) [1, 2, 3, 4, 5, 0] rfl ?_
      exact hk_10 _ _ _ h
    intro v3 v4 v5 h
    unfold b_X3_apart_10 at h
    refine g_iload C 12 5 dX3_apart_10 rfl rfl ?_
    refine g_aload_n C 13 0 dX3_apart_12 rfl rfl ?_
    refine g_get (v := .ref t) C 16 3 0 0 hin_3 rfl rfl (by decide) wf_X3_9 rfl dX3_apart_13 rfl ?_
    refine g_get (v := .int (T.1 1)) C 19 6 1 1 hin_6 rfl rfl (by decide) wf_X3_31 rfl dX3_apart_16 rfl ?_
    refine g_icmp_ge C 75 22 dX3_apart_19 (by decide) rfl (fun c => ?_) (fun c => ?_)
    · have h := ifT c h
      refine g_iconst C 76 (0 : Int32) dX3_apart_75 rfl rfl ?_
      refine g_iload C 78 4 dX3_apart_76 rfl rfl ?_
      refine g_iload_n C 79 3 dX3_apart_78 rfl rfl ?_
      refine g_isub C 80 dX3_apart_79 rfl ?_
      refine g_mmax C 83 wm_X3_61 hs_max hi_math hc_max ⟨Nat.le_of_ble_eq_true rfl, Nat.le_of_ble_eq_true rfl⟩ ⟨Nat.le_of_ble_eq_true rfl, Nat.le_of_ble_eq_true rfl⟩ dX3_apart_80 rfl ?_
      exact g_iret (st := []) C E dX3_apart_83 (by obtain rfl := Option.some.inj h; exact ⟨rfl, rfl⟩)
    · have h := ifF c h
      refine g_iload_n C 23 1 dX3_apart_22 rfl rfl ?_
      refine g_iload C 25 5 dX3_apart_23 rfl rfl ?_
      refine bnd h (fun x1 e1 h => ?_)
      refine g_callNr C 28 [] [.int x1] (ct_X7_has L v1 v5 x1 e1) kX7_has kvX7_has wn_X3_49 [] rfl rfl rfl rfl rfl (Nat.le_of_ble_eq_true rfl) ⟨Nat.le_of_ble_eq_true rfl, Nat.le_of_ble_eq_true rfl⟩ ⟨Nat.zero_le _, Nat.zero_le _⟩ dX3_apart_25 rfl ?_
      refine g_if_eq C 69 31 dX3_apart_28 (by decide) rfl (fun c => ?_) (fun c => ?_)
      · have h := ifT c h
        exact J_69 _ _ _ h
      · have h := ifF c h
        refine g_aload_n C 32 0 dX3_apart_31 rfl rfl ?_
        refine g_get (v := .ref t) C 35 3 0 0 hin_3 rfl rfl (by decide) wf_X3_9 rfl dX3_apart_32 rfl ?_
        refine g_aload_n C 36 0 dX3_apart_35 rfl rfl ?_
        refine g_get (v := .ref t) C 39 3 0 0 hin_3 rfl rfl (by decide) wf_X3_9 rfl dX3_apart_36 rfl ?_
        refine g_get (v := .ref (q 9)) C 42 6 1 9 hin_6 rfl rfl (by decide) wf_X3_15 rfl dX3_apart_39 rfl ?_
        refine g_iload C 44 5 dX3_apart_42 rfl rfl ?_
        refine bnd h (fun x2 e2 h => ?_)
        refine g_callNr C 47 [.ref t] [.int x2, .ref t] (ct_X7_at L (q 9) 6 (T.2 9) v5 x2 e2) kX7_at kvX7_at wn_X3_21 [5] rfl rfl rfl rfl rfl (Nat.le_of_ble_eq_true rfl) ⟨Nat.le_of_ble_eq_true rfl, Nat.le_of_ble_eq_true rfl⟩ ⟨Nat.zero_le _, Nat.zero_le _⟩ dX3_apart_44 rfl ?_
        refine g_iload_n C 48 2 dX3_apart_47 rfl rfl ?_
        refine bnd h (fun x3 e3 h => ?_)
        refine g_callVr C 51 [] [.int x3] (ct_X6_hardOn L t q T x2 v2 x3 e3) kX6_hardOn kvX6_hardOn wl_X3_53 6 0 rfl rfl rfl [1, 2, 3, 4, 5, 6, 7] rfl rfl rfl rfl rfl (Nat.le_of_ble_eq_true rfl) ⟨Nat.le_of_ble_eq_true rfl, Nat.le_of_ble_eq_true rfl⟩ ⟨Nat.zero_le _, Nat.zero_le _⟩ dX3_apart_48 rfl ?_
        refine g_istore C 53 6 [(6, .int x3), (0, .ref o), (1, .int v1), (2, .int v2), (3, .int v3), (4, .int v4), (5, .int v5)] dX3_apart_51 rfl 7 hNL (by decide) rfl ?_
        refine g_iload_n C 54 4 dX3_apart_53 rfl rfl ?_
        refine g_iload C 56 0 dX3_apart_54 rfl rfl ?_
        refine g_mmin C 59 wm_X3_56 hs_min hi_math hc_min ⟨Nat.le_of_ble_eq_true rfl, Nat.le_of_ble_eq_true rfl⟩ ⟨Nat.le_of_ble_eq_true rfl, Nat.le_of_ble_eq_true rfl⟩ dX3_apart_56 rfl ?_
        refine g_istore_n C 60 3 [(3, .int (minI v3 x3)), (6, .int x3), (0, .ref o), (1, .int v1), (2, .int v2), (4, .int v4), (5, .int v5)] dX3_apart_59 rfl rfl 7 hNL (by decide) rfl ?_
        refine g_iload C 62 5 dX3_apart_60 rfl rfl ?_
        refine g_iload C 64 1 dX3_apart_62 rfl rfl ?_
        refine g_mmax C 67 wm_X3_61 hs_max hi_math hc_max ⟨Nat.le_of_ble_eq_true rfl, Nat.le_of_ble_eq_true rfl⟩ ⟨Nat.le_of_ble_eq_true rfl, Nat.le_of_ble_eq_true rfl⟩ dX3_apart_64 rfl ?_
        refine g_istore C 69 4 [(4, .int (maxI v4 x3)), (3, .int (minI v3 x3)), (6, .int x3), (0, .ref o), (1, .int v1), (2, .int v2), (5, .int v5)] dX3_apart_67 rfl 7 hNL (by decide) rfl ?_
        refine g_lv (lv' := [(0, .ref o), (1, .int v1), (2, .int v2), (3, .int (minI v3 x3)), (4, .int (maxI v4 x3)), (5, .int v5)]) [3, 4, 5, 1, 0, 6] rfl ?_
        exact J_69 _ _ _ h
  unfold f_X3_apart at h
  refine g_sipush C 3 (1000 : Int32) dX3_apart_0 rfl rfl ?_
  refine g_istore_n C 4 3 [(3, .int (1000 : Int32)), (0, .ref o), (1, .int v1), (2, .int v2)] dX3_apart_3 rfl rfl 7 hNL (by decide) rfl ?_
  refine g_iconst C 5 (0 : Int32) dX3_apart_4 rfl rfl ?_
  refine g_istore C 7 4 [(4, .int (0 : Int32)), (3, .int (1000 : Int32)), (0, .ref o), (1, .int v1), (2, .int v2)] dX3_apart_5 rfl 7 hNL (by decide) rfl ?_
  refine g_iconst C 8 (0 : Int32) dX3_apart_7 rfl rfl ?_
  refine g_istore C 10 5 [(5, .int (0 : Int32)), (4, .int (0 : Int32)), (3, .int (1000 : Int32)), (0, .ref o), (1, .int v1), (2, .int v2)] dX3_apart_8 rfl 7 hNL (by decide) rfl ?_
  refine g_lv (lv' := [(0, .ref o), (1, .int v1), (2, .int v2), (3, .int (1000 : Int32)), (4, .int (0 : Int32)), (5, .int (0 : Int32))]) [3, 4, 5, 2, 1, 0] rfl ?_
  exact J_10 _ _ _ _ _ _ h
set_option maxHeartbeats 4000000 in
set_option maxRecDepth 100000 in
theorem ct_X3_fairestSet (L : LL) (o : Nat) (t : Nat) (q : Nat → Nat) (T : OS) (v1 : Int32) (v2 : Int32) (x : Int32) (h : f_X3_fairestSet T v1 v2 = some x) : Ct L yX3_fairestSet cX3_fairestSet 7 (some .int) (rmk 4 0 0 94) 0 0 [.ref o, .int v1, .int v2] (cells3 L o t q T) (Pv (some (.int x)) (cells3 L o t q T)) := by
  refine g_enter (lv := [(0, .ref o), (1, .int v1), (2, .int v2)]) kX3_fairestSet rfl rfl (Nat.le_of_ble_eq_true rfl) (fun Γ C E hNL => ?_)
  have J_11 : ∀ (n : Nat) (v1 : Int32) (v2 : Int32) (v3 : Int32) (v4 : Int32) (v5 : Int32), Lp3 (b_X3_fairestSet_11 T  v1 v2) n v3 v4 v5 = some x → G L Γ 0 0 (cells3 L o t q T) 11 [(0, .ref o), (1, .int v1), (2, .int v2), (3, .int v3), (4, .int v4), (5, .int v5)] [] := by
    intro n v1 v2
    refine lp_ok3 (fun v3 v4 v5 => G L Γ 0 0 (cells3 L o t q T) 11 [(0, .ref o), (1, .int v1), (2, .int v2), (3, .int v3), (4, .int v4), (5, .int v5)] []) (fun k_11 hk_11 => ?_) n
    have J_54 : ∀ (v3 : Int32) (v4 : Int32) (v5 : Int32), j_X3_fairestSet_54 T k_11 v1 v2 v3 v4 v5 = some x → G L Γ 0 0 (cells3 L o t q T) 54 [(0, .ref o), (1, .int v1), (2, .int v2), (3, .int v3), (4, .int v4), (5, .int v5)] [] := by
      intro v3 v4 v5 h
      unfold j_X3_fairestSet_54 at h
      refine g_iinc C 57 (1 : Int32) 5 [(5, .int (v5 + (1 : Int32))), (0, .ref o), (1, .int v1), (2, .int v2), (3, .int v3), (4, .int v4)] dX3_fairestSet_54 rfl rfl 7 hNL (by decide) rfl rfl ?_
      refine g_goto C 11 dX3_fairestSet_57 (by decide) ?_
      refine g_lv (lv' := [(0, .ref o), (1, .int v1), (2, .int v2), (3, .int v3), (4, .int v4), (5, .int (v5 + (1 : Int32)))]) [1, 2, 3, 4, 5, 0] rfl ?_
      exact hk_11 _ _ _ h
    intro v3 v4 v5 h
    unfold b_X3_fairestSet_11 at h
    refine g_iload C 13 5 dX3_fairestSet_11 rfl rfl ?_
    refine g_aload_n C 14 0 dX3_fairestSet_13 rfl rfl ?_
    refine g_get (v := .ref t) C 17 3 0 0 hin_3 rfl rfl (by decide) wf_X3_9 rfl dX3_fairestSet_14 rfl ?_
    refine bnd h (fun x1 e1 h => ?_)
    refine g_callVr C 20 [.int v5] [.int x1, .int v5] (ct_X6_allWays L t q T x1 e1) kX6_allWays kvX6_allWays wl_X3_64 6 0 rfl rfl rfl [1, 2, 3, 4, 5, 6, 7] rfl rfl rfl rfl rfl (Nat.le_of_ble_eq_true rfl) ⟨Nat.le_of_ble_eq_true rfl, Nat.le_of_ble_eq_true rfl⟩ ⟨Nat.zero_le _, Nat.zero_le _⟩ dX3_fairestSet_17 rfl ?_
    refine g_icmp_gt C 60 23 dX3_fairestSet_20 (by decide) rfl (fun c => ?_) (fun c => ?_)
    · have h := ifT c h
      refine g_iload C 62 4 dX3_fairestSet_60 rfl rfl ?_
      exact g_iret (st := []) C E dX3_fairestSet_62 (by obtain rfl := Option.some.inj h; exact ⟨rfl, rfl⟩)
    · have h := ifF c h
      refine g_iload C 25 5 dX3_fairestSet_23 rfl rfl ?_
      refine bnd h (fun x2 e2 h => ?_)
      refine g_callSr C 28 [] [.int x2] (ct_J6_bitCount_0f7a4 L v5 x2 e2) kJ6_bitCount_0f7a4 kvJ6_bitCount_0f7a4 wl_X3_25 [] rfl rfl rfl rfl rfl (Nat.le_of_ble_eq_true rfl) ⟨Nat.le_of_ble_eq_true rfl, Nat.le_of_ble_eq_true rfl⟩ ⟨Nat.zero_le _, Nat.zero_le _⟩ dX3_fairestSet_25 rfl ?_
      refine g_iload_n C 29 2 dX3_fairestSet_28 rfl rfl ?_
      refine g_icmp_ne C 54 32 dX3_fairestSet_29 (by decide) rfl (fun c => ?_) (fun c => ?_)
      · have h := ifF c h
        exact J_54 _ _ _ h
      · have h := ifT c h
        refine g_aload_n C 33 0 dX3_fairestSet_32 rfl rfl ?_
        refine g_iload C 35 5 dX3_fairestSet_33 rfl rfl ?_
        refine g_iload_n C 36 1 dX3_fairestSet_35 rfl rfl ?_
        refine bnd h (fun x3 e3 h => ?_)
        refine g_callVr C 39 [] [.int x3] (ct_X3_apart L o t q T v5 v1 x3 e3) kX3_apart kvX3_apart wl_X3_67 3 0 rfl rfl rfl [0, 1, 2, 3, 4, 5, 6, 7] rfl rfl rfl rfl rfl (Nat.le_of_ble_eq_true rfl) ⟨Nat.le_of_ble_eq_true rfl, Nat.le_of_ble_eq_true rfl⟩ ⟨Nat.zero_le _, Nat.zero_le _⟩ dX3_fairestSet_36 rfl ?_
        refine g_istore C 41 6 [(6, .int x3), (0, .ref o), (1, .int v1), (2, .int v2), (3, .int v3), (4, .int v4), (5, .int v5)] dX3_fairestSet_39 rfl 7 hNL (by decide) rfl ?_
        refine g_iload C 43 0 dX3_fairestSet_41 rfl rfl ?_
        refine g_iload_n C 44 4 dX3_fairestSet_43 rfl rfl ?_
        refine g_icmp_ge C 54 47 dX3_fairestSet_44 (by decide) rfl (fun c => ?_) (fun c => ?_)
        · have h := ifT c h
          refine g_lv (lv' := [(0, .ref o), (1, .int v1), (2, .int v2), (3, .int v3), (4, .int v4), (5, .int v5)]) [1, 2, 3, 4, 5, 6] rfl ?_
          exact J_54 _ _ _ h
        · have h := ifF c h
          refine g_iload C 49 0 dX3_fairestSet_47 rfl rfl ?_
          refine g_istore_n C 50 3 [(3, .int x3), (6, .int x3), (0, .ref o), (1, .int v1), (2, .int v2), (4, .int v4), (5, .int v5)] dX3_fairestSet_49 rfl rfl 7 hNL (by decide) rfl ?_
          refine g_iload C 52 6 dX3_fairestSet_50 rfl rfl ?_
          refine g_istore C 54 4 [(4, .int v5), (3, .int x3), (6, .int x3), (0, .ref o), (1, .int v1), (2, .int v2), (5, .int v5)] dX3_fairestSet_52 rfl 7 hNL (by decide) rfl ?_
          refine g_lv (lv' := [(0, .ref o), (1, .int v1), (2, .int v2), (3, .int x3), (4, .int v5), (5, .int v5)]) [3, 4, 5, 1, 0, 6] rfl ?_
          exact J_54 _ _ _ h
  unfold f_X3_fairestSet at h
  refine g_sipush C 3 (1000 : Int32) dX3_fairestSet_0 rfl rfl ?_
  refine g_istore_n C 4 3 [(3, .int (1000 : Int32)), (0, .ref o), (1, .int v1), (2, .int v2)] dX3_fairestSet_3 rfl rfl 7 hNL (by decide) rfl ?_
  refine g_bipush C 6 (-9 : Int32) dX3_fairestSet_4 rfl rfl ?_
  refine g_istore C 8 4 [(4, .int (-9 : Int32)), (3, .int (1000 : Int32)), (0, .ref o), (1, .int v1), (2, .int v2)] dX3_fairestSet_6 rfl 7 hNL (by decide) rfl ?_
  refine g_iconst C 9 (1 : Int32) dX3_fairestSet_8 rfl rfl ?_
  refine g_istore C 11 5 [(5, .int (1 : Int32)), (4, .int (-9 : Int32)), (3, .int (1000 : Int32)), (0, .ref o), (1, .int v1), (2, .int v2)] dX3_fairestSet_9 rfl 7 hNL (by decide) rfl ?_
  refine g_lv (lv' := [(0, .ref o), (1, .int v1), (2, .int v2), (3, .int (1000 : Int32)), (4, .int (-9 : Int32)), (5, .int (1 : Int32))]) [3, 4, 5, 2, 1, 0] rfl ?_
  exact J_11 _ _ _ _ _ _ h
set_option maxHeartbeats 4000000 in
set_option maxRecDepth 100000 in
theorem ct_X3_followed (L : LL) (o : Nat) (t : Nat) (q : Nat → Nat) (T : OS) (v1 : Int32) (x : Int32) (h : f_X3_followed T v1 = some x) : Ct L yX3_followed cX3_followed 4 (some .int) (rmk 1 0 0 21) 0 0 [.ref o, .int v1] (cells3 L o t q T) (Pv (some (.int x)) (cells3 L o t q T)) := by
  refine g_enter (lv := [(0, .ref o), (1, .int v1)]) kX3_followed rfl rfl (Nat.le_of_ble_eq_true rfl) (fun Γ C E hNL => ?_)
  have J_4 : ∀ (n : Nat) (v1 : Int32) (v2 : Int32) (v3 : Int32), Lp2 (b_X3_followed_4 T  v1) n v2 v3 = some x → G L Γ 0 0 (cells3 L o t q T) 4 [(0, .ref o), (1, .int v1), (2, .int v2), (3, .int v3)] [] := by
    intro n v1
    refine lp_ok2 (fun v2 v3 => G L Γ 0 0 (cells3 L o t q T) 4 [(0, .ref o), (1, .int v1), (2, .int v2), (3, .int v3)] []) (fun k_4 hk_4 => ?_) n
    intro v2 v3 h
    unfold b_X3_followed_4 at h
    refine g_iload_n C 5 3 dX3_followed_4 rfl rfl ?_
    refine g_aload_n C 6 0 dX3_followed_5 rfl rfl ?_
    refine g_get (v := .ref t) C 9 3 0 0 hin_3 rfl rfl (by decide) wf_X3_9 rfl dX3_followed_6 rfl ?_
    refine g_get (v := .int (T.1 1)) C 12 6 1 1 hin_6 rfl rfl (by decide) wf_X3_31 rfl dX3_followed_9 rfl ?_
    refine g_icmp_ge C 40 15 dX3_followed_12 (by decide) rfl (fun c => ?_) (fun c => ?_)
    · have h := ifT c h
      refine g_iload_n C 41 2 dX3_followed_40 rfl rfl ?_
      exact g_iret (st := []) C E dX3_followed_41 (by obtain rfl := Option.some.inj h; exact ⟨rfl, rfl⟩)
    · have h := ifF c h
      refine g_iload_n C 16 3 dX3_followed_15 rfl rfl ?_
      refine g_iload_n C 17 1 dX3_followed_16 rfl rfl ?_
      refine g_icmp_ge C 40 20 dX3_followed_17 (by decide) rfl (fun c => ?_) (fun c => ?_)
      · have h := ifT c h
        refine g_iload_n C 41 2 dX3_followed_40 rfl rfl ?_
        exact g_iret (st := []) C E dX3_followed_41 (by obtain rfl := Option.some.inj h; exact ⟨rfl, rfl⟩)
      · have h := ifF c h
        refine g_iload_n C 21 2 dX3_followed_20 rfl rfl ?_
        refine g_aload_n C 22 0 dX3_followed_21 rfl rfl ?_
        refine g_get (v := .ref t) C 25 3 0 0 hin_3 rfl rfl (by decide) wf_X3_9 rfl dX3_followed_22 rfl ?_
        refine g_get (v := .ref (q 9)) C 28 6 1 9 hin_6 rfl rfl (by decide) wf_X3_15 rfl dX3_followed_25 rfl ?_
        refine g_iload_n C 29 3 dX3_followed_28 rfl rfl ?_
        refine bnd h (fun x1 e1 h => ?_)
        refine g_callNr C 32 [.int v2] [.int x1, .int v2] (ct_X7_at L (q 9) 6 (T.2 9) v3 x1 e1) kX7_at kvX7_at wn_X3_21 [5] rfl rfl rfl rfl rfl (Nat.le_of_ble_eq_true rfl) ⟨Nat.le_of_ble_eq_true rfl, Nat.le_of_ble_eq_true rfl⟩ ⟨Nat.zero_le _, Nat.zero_le _⟩ dX3_followed_29 rfl ?_
        refine g_ior C 33 dX3_followed_32 rfl ?_
        refine g_istore_n C 34 2 [(2, .int (v2 ||| x1)), (0, .ref o), (1, .int v1), (3, .int v3)] dX3_followed_33 rfl rfl 4 hNL (by decide) rfl ?_
        refine g_iinc C 37 (1 : Int32) 3 [(3, .int (v3 + (1 : Int32))), (2, .int (v2 ||| x1)), (0, .ref o), (1, .int v1)] dX3_followed_34 rfl rfl 4 hNL (by decide) rfl rfl ?_
        refine g_goto C 4 dX3_followed_37 (by decide) ?_
        refine g_lv (lv' := [(0, .ref o), (1, .int v1), (2, .int (v2 ||| x1)), (3, .int (v3 + (1 : Int32)))]) [2, 3, 1, 0] rfl ?_
        exact hk_4 _ _ h
  unfold f_X3_followed at h
  refine g_iconst C 1 (0 : Int32) dX3_followed_0 rfl rfl ?_
  refine g_istore_n C 2 2 [(2, .int (0 : Int32)), (0, .ref o), (1, .int v1)] dX3_followed_1 rfl rfl 4 hNL (by decide) rfl ?_
  refine g_iconst C 3 (0 : Int32) dX3_followed_2 rfl rfl ?_
  refine g_istore_n C 4 3 [(3, .int (0 : Int32)), (2, .int (0 : Int32)), (0, .ref o), (1, .int v1)] dX3_followed_3 rfl rfl 4 hNL (by decide) rfl ?_
  refine g_lv (lv' := [(0, .ref o), (1, .int v1), (2, .int (0 : Int32)), (3, .int (0 : Int32))]) [2, 3, 1, 0] rfl ?_
  exact J_4 _ _ _ _ h
set_option maxHeartbeats 4000000 in
set_option maxRecDepth 100000 in
theorem ct_X3_testsToFollow (L : LL) (o : Nat) (t : Nat) (q : Nat → Nat) (T : OS) (x : Int32) (h : f_X3_testsToFollow T = some x) : Ct L yX3_testsToFollow cX3_testsToFollow 3 (some .int) (rmk 2 0 0 44) 0 0 [.ref o] (cells3 L o t q T) (Pv (some (.int x)) (cells3 L o t q T)) := by
  refine g_enter (lv := [(0, .ref o)]) kX3_testsToFollow rfl rfl (Nat.le_of_ble_eq_true rfl) (fun Γ C E hNL => ?_)
  have J_14 : ∀ (n : Nat) (v1 : Int32) (v2 : Int32), Lp1 (b_X3_testsToFollow_14 T  v1) n v2 = some x → G L Γ 0 0 (cells3 L o t q T) 14 [(0, .ref o), (1, .int v1), (2, .int v2)] [] := by
    intro n v1
    refine lp_ok1 (fun v2 => G L Γ 0 0 (cells3 L o t q T) 14 [(0, .ref o), (1, .int v1), (2, .int v2)] []) (fun k_14 hk_14 => ?_) n
    intro v2 h
    unfold b_X3_testsToFollow_14 at h
    refine g_iload_n C 15 2 dX3_testsToFollow_14 rfl rfl ?_
    refine g_aload_n C 16 0 dX3_testsToFollow_15 rfl rfl ?_
    refine g_get (v := .ref t) C 19 3 0 0 hin_3 rfl rfl (by decide) wf_X3_9 rfl dX3_testsToFollow_16 rfl ?_
    refine g_get (v := .int (T.1 1)) C 22 6 1 1 hin_6 rfl rfl (by decide) wf_X3_31 rfl dX3_testsToFollow_19 rfl ?_
    refine g_icmp_ge C 42 25 dX3_testsToFollow_22 (by decide) rfl (fun c => ?_) (fun c => ?_)
    · have h := ifT c h
      refine g_aload_n C 43 0 dX3_testsToFollow_42 rfl rfl ?_
      refine g_get (v := .ref t) C 46 3 0 0 hin_3 rfl rfl (by decide) wf_X3_9 rfl dX3_testsToFollow_43 rfl ?_
      refine g_get (v := .int (T.1 1)) C 49 6 1 1 hin_6 rfl rfl (by decide) wf_X3_31 rfl dX3_testsToFollow_46 rfl ?_
      exact g_iret (st := []) C E dX3_testsToFollow_49 (by obtain rfl := Option.some.inj h; exact ⟨rfl, rfl⟩)
    · have h := ifF c h
      refine g_aload_n C 26 0 dX3_testsToFollow_25 rfl rfl ?_
      refine g_iload_n C 27 2 dX3_testsToFollow_26 rfl rfl ?_
      refine bnd h (fun x2 e2 h => ?_)
      refine g_callVr C 30 [] [.int x2] (ct_X3_followed L o t q T v2 x2 e2) kX3_followed kvX3_followed wl_X3_70 3 0 rfl rfl rfl [0, 1, 2, 3, 4, 5, 6, 7] rfl rfl rfl rfl rfl (Nat.le_of_ble_eq_true rfl) ⟨Nat.le_of_ble_eq_true rfl, Nat.le_of_ble_eq_true rfl⟩ ⟨Nat.zero_le _, Nat.zero_le _⟩ dX3_testsToFollow_27 rfl ?_
      refine g_iload_n C 31 1 dX3_testsToFollow_30 rfl rfl ?_
      refine g_icmp_ne C 36 34 dX3_testsToFollow_31 (by decide) rfl (fun c => ?_) (fun c => ?_)
      · have h := ifF c h
        refine g_iinc C 39 (1 : Int32) 2 [(2, .int (v2 + (1 : Int32))), (0, .ref o), (1, .int v1)] dX3_testsToFollow_36 rfl rfl 3 hNL (by decide) rfl rfl ?_
        refine g_goto C 14 dX3_testsToFollow_39 (by decide) ?_
        refine g_lv (lv' := [(0, .ref o), (1, .int v1), (2, .int (v2 + (1 : Int32)))]) [1, 2, 0] rfl ?_
        exact hk_14 _ h
      · have h := ifT c h
        refine g_iload_n C 35 2 dX3_testsToFollow_34 rfl rfl ?_
        exact g_iret (st := []) C E dX3_testsToFollow_35 (by obtain rfl := Option.some.inj h; exact ⟨rfl, rfl⟩)
  unfold f_X3_testsToFollow at h
  refine g_aload_n C 1 0 dX3_testsToFollow_0 rfl rfl ?_
  refine g_aload_n C 2 0 dX3_testsToFollow_1 rfl rfl ?_
  refine g_get (v := .ref t) C 5 3 0 0 hin_3 rfl rfl (by decide) wf_X3_9 rfl dX3_testsToFollow_2 rfl ?_
  refine g_get (v := .int (T.1 1)) C 8 6 1 1 hin_6 rfl rfl (by decide) wf_X3_31 rfl dX3_testsToFollow_5 rfl ?_
  refine bnd h (fun x1 e1 h => ?_)
  refine g_callVr C 11 [] [.int x1] (ct_X3_followed L o t q T (T.1 1) x1 e1) kX3_followed kvX3_followed wl_X3_70 3 0 rfl rfl rfl [0, 1, 2, 3, 4, 5, 6, 7] rfl rfl rfl rfl rfl (Nat.le_of_ble_eq_true rfl) ⟨Nat.le_of_ble_eq_true rfl, Nat.le_of_ble_eq_true rfl⟩ ⟨Nat.zero_le _, Nat.zero_le _⟩ dX3_testsToFollow_8 rfl ?_
  refine g_istore_n C 12 1 [(1, .int x1), (0, .ref o)] dX3_testsToFollow_11 rfl rfl 3 hNL (by decide) rfl ?_
  refine g_iconst C 13 (0 : Int32) dX3_testsToFollow_12 rfl rfl ?_
  refine g_istore_n C 14 2 [(2, .int (0 : Int32)), (1, .int x1), (0, .ref o)] dX3_testsToFollow_13 rfl rfl 3 hNL (by decide) rfl ?_
  refine g_lv (lv' := [(0, .ref o), (1, .int x1), (2, .int (0 : Int32))]) [2, 1, 0] rfl ?_
  exact J_14 _ _ _ h
set_option maxHeartbeats 4000000 in
set_option maxRecDepth 100000 in
theorem ct_X3_nearestSet (L : LL) (o : Nat) (t : Nat) (q : Nat → Nat) (T : OS) (v1 : Int32) (v2 : Int32) (v3 : Int32) (x : Int32) (h : f_X3_nearestSet T v1 v2 v3 = some x) : Ct L yX3_nearestSet cX3_nearestSet 8 (some .int) (rmk 3 0 0 68) 0 0 [.ref o, .int v1, .int v2, .int v3] (cells3 L o t q T) (Pv (some (.int x)) (cells3 L o t q T)) := by
  refine g_enter (lv := [(0, .ref o), (1, .int v1), (2, .int v2), (3, .int v3)]) kX3_nearestSet rfl rfl (Nat.le_of_ble_eq_true rfl) (fun Γ C E hNL => ?_)
  have J_12 : ∀ (n : Nat) (v1 : Int32) (v2 : Int32) (v3 : Int32) (v4 : Int32) (v5 : Int32) (v6 : Int32), Lp3 (b_X3_nearestSet_12 T  v1 v2 v3) n v4 v5 v6 = some x → G L Γ 0 0 (cells3 L o t q T) 12 [(0, .ref o), (1, .int v1), (2, .int v2), (3, .int v3), (4, .int v4), (5, .int v5), (6, .int v6)] [] := by
    intro n v1 v2 v3
    refine lp_ok3 (fun v4 v5 v6 => G L Γ 0 0 (cells3 L o t q T) 12 [(0, .ref o), (1, .int v1), (2, .int v2), (3, .int v3), (4, .int v4), (5, .int v5), (6, .int v6)] []) (fun k_12 hk_12 => ?_) n
    have J_90 : ∀ (v4 : Int32) (v5 : Int32) (v6 : Int32), j_X3_nearestSet_90 T k_12 v1 v2 v3 v4 v5 v6 = some x → G L Γ 0 0 (cells3 L o t q T) 90 [(0, .ref o), (1, .int v1), (2, .int v2), (3, .int v3), (4, .int v4), (5, .int v5), (6, .int v6)] [] := by
      intro v4 v5 v6 h
      unfold j_X3_nearestSet_90 at h
      refine g_iinc C 93 (1 : Int32) 6 [(6, .int (v6 + (1 : Int32))), (0, .ref o), (1, .int v1), (2, .int v2), (3, .int v3), (4, .int v4), (5, .int v5)] dX3_nearestSet_90 rfl rfl 8 hNL (by decide) rfl rfl ?_
      refine g_goto C 12 dX3_nearestSet_93 (by decide) ?_
      refine g_lv (lv' := [(0, .ref o), (1, .int v1), (2, .int v2), (3, .int v3), (4, .int v4), (5, .int v5), (6, .int (v6 + (1 : Int32)))]) [1, 2, 3, 4, 5, 6, 0] rfl ?_
      exact hk_12 _ _ _ h
    intro v4 v5 v6 h
    unfold b_X3_nearestSet_12 at h
    refine g_iload C 14 6 dX3_nearestSet_12 rfl rfl ?_
    refine g_aload_n C 15 0 dX3_nearestSet_14 rfl rfl ?_
    refine g_get (v := .ref t) C 18 3 0 0 hin_3 rfl rfl (by decide) wf_X3_9 rfl dX3_nearestSet_15 rfl ?_
    refine bnd h (fun x1 e1 h => ?_)
    refine g_callVr C 21 [.int v6] [.int x1, .int v6] (ct_X6_allStreets L t q T x1 e1) kX6_allStreets kvX6_allStreets wl_X3_39 6 0 rfl rfl rfl [1, 2, 3, 4, 5, 6, 7] rfl rfl rfl rfl rfl (Nat.le_of_ble_eq_true rfl) ⟨Nat.le_of_ble_eq_true rfl, Nat.le_of_ble_eq_true rfl⟩ ⟨Nat.zero_le _, Nat.zero_le _⟩ dX3_nearestSet_18 rfl ?_
    refine g_icmp_gt C 96 24 dX3_nearestSet_21 (by decide) rfl (fun c => ?_) (fun c => ?_)
    · have h := ifT c h
      refine g_iload C 98 5 dX3_nearestSet_96 rfl rfl ?_
      exact g_iret (st := []) C E dX3_nearestSet_98 (by obtain rfl := Option.some.inj h; exact ⟨rfl, rfl⟩)
    · have h := ifF c h
      refine g_aload_n C 25 0 dX3_nearestSet_24 rfl rfl ?_
      refine g_get (v := .ref t) C 28 3 0 0 hin_3 rfl rfl (by decide) wf_X3_9 rfl dX3_nearestSet_25 rfl ?_
      refine g_iload C 30 6 dX3_nearestSet_28 rfl rfl ?_
      refine bnd h (fun x2 e2 h => ?_)
      refine g_callVr C 33 [] [.int x2] (ct_X6_kindsOn L t q T v6 x2 e2) kX6_kindsOn kvX6_kindsOn wl_X3_43 6 0 rfl rfl rfl [1, 2, 3, 4, 5, 6, 7] rfl rfl rfl rfl rfl (Nat.le_of_ble_eq_true rfl) ⟨Nat.le_of_ble_eq_true rfl, Nat.le_of_ble_eq_true rfl⟩ ⟨Nat.zero_le _, Nat.zero_le _⟩ dX3_nearestSet_30 rfl ?_
      refine g_iload_n C 34 1 dX3_nearestSet_33 rfl rfl ?_
      refine g_iand C 35 dX3_nearestSet_34 rfl ?_
      refine g_iload_n C 36 1 dX3_nearestSet_35 rfl rfl ?_
      refine g_icmp_ne C 90 39 dX3_nearestSet_36 (by decide) rfl (fun c => ?_) (fun c => ?_)
      · have h := ifF c h
        exact J_90 _ _ _ h
      · have h := ifT c h
        refine g_aload_n C 40 0 dX3_nearestSet_39 rfl rfl ?_
        refine g_get (v := .ref t) C 43 3 0 0 hin_3 rfl rfl (by decide) wf_X3_9 rfl dX3_nearestSet_40 rfl ?_
        refine g_iload C 45 6 dX3_nearestSet_43 rfl rfl ?_
        refine bnd h (fun x3 e3 h => ?_)
        refine g_callVr C 48 [] [.int x3] (ct_X6_minutesOn L t q T v6 x3 e3) kX6_minutesOn kvX6_minutesOn wl_X3_73 6 0 rfl rfl rfl [1, 2, 3, 4, 5, 6, 7] rfl rfl rfl rfl rfl (Nat.le_of_ble_eq_true rfl) ⟨Nat.le_of_ble_eq_true rfl, Nat.le_of_ble_eq_true rfl⟩ ⟨Nat.zero_le _, Nat.zero_le _⟩ dX3_nearestSet_45 rfl ?_
        refine g_iload_n C 49 2 dX3_nearestSet_48 rfl rfl ?_
        refine g_icmp_gt C 90 52 dX3_nearestSet_49 (by decide) rfl (fun c => ?_) (fun c => ?_)
        · have h := ifT c h
          exact J_90 _ _ _ h
        · have h := ifF c h
          refine g_aload_n C 53 0 dX3_nearestSet_52 rfl rfl ?_
          refine g_get (v := .ref t) C 56 3 0 0 hin_3 rfl rfl (by decide) wf_X3_9 rfl dX3_nearestSet_53 rfl ?_
          refine g_iload C 58 6 dX3_nearestSet_56 rfl rfl ?_
          refine g_aload_n C 59 0 dX3_nearestSet_58 rfl rfl ?_
          refine g_get (v := .ref t) C 62 3 0 0 hin_3 rfl rfl (by decide) wf_X3_9 rfl dX3_nearestSet_59 rfl ?_
          refine g_get (v := .int (T.1 3)) C 65 6 1 3 hin_6 rfl rfl (by decide) wf_X3_76 rfl dX3_nearestSet_62 rfl ?_
          refine bnd h (fun x4 e4 h => ?_)
          refine g_callVr C 68 [] [.int x4] (ct_X6_hardOn L t q T v6 (T.1 3) x4 e4) kX6_hardOn kvX6_hardOn wl_X3_53 6 0 rfl rfl rfl [1, 2, 3, 4, 5, 6, 7] rfl rfl rfl rfl rfl (Nat.le_of_ble_eq_true rfl) ⟨Nat.le_of_ble_eq_true rfl, Nat.le_of_ble_eq_true rfl⟩ ⟨Nat.zero_le _, Nat.zero_le _⟩ dX3_nearestSet_65 rfl ?_
          refine g_iload_n C 69 3 dX3_nearestSet_68 rfl rfl ?_
          refine g_isub C 70 dX3_nearestSet_69 rfl ?_
          refine g_mabs C 73 wm_X3_79 hs_abs hi_math hc_abs ⟨Nat.le_of_ble_eq_true rfl, Nat.le_of_ble_eq_true rfl⟩ ⟨Nat.le_of_ble_eq_true rfl, Nat.le_of_ble_eq_true rfl⟩ dX3_nearestSet_70 rfl ?_
          refine g_istore C 75 7 [(7, .int (absI (x4 - v3))), (0, .ref o), (1, .int v1), (2, .int v2), (3, .int v3), (4, .int v4), (5, .int v5), (6, .int v6)] dX3_nearestSet_73 rfl 8 hNL (by decide) rfl ?_
          refine g_iload C 77 0 dX3_nearestSet_75 rfl rfl ?_
          refine g_iload C 79 5 dX3_nearestSet_77 rfl rfl ?_
          refine g_icmp_ge C 90 82 dX3_nearestSet_79 (by decide) rfl (fun c => ?_) (fun c => ?_)
          · have h := ifT c h
            refine g_lv (lv' := [(0, .ref o), (1, .int v1), (2, .int v2), (3, .int v3), (4, .int v4), (5, .int v5), (6, .int v6)]) [1, 2, 3, 4, 5, 6, 7] rfl ?_
            exact J_90 _ _ _ h
          · have h := ifF c h
            refine g_iload C 84 0 dX3_nearestSet_82 rfl rfl ?_
            refine g_istore C 86 4 [(4, .int (absI (x4 - v3))), (7, .int (absI (x4 - v3))), (0, .ref o), (1, .int v1), (2, .int v2), (3, .int v3), (5, .int v5), (6, .int v6)] dX3_nearestSet_84 rfl 8 hNL (by decide) rfl ?_
            refine g_iload C 88 7 dX3_nearestSet_86 rfl rfl ?_
            refine g_istore C 90 5 [(5, .int v6), (4, .int (absI (x4 - v3))), (7, .int (absI (x4 - v3))), (0, .ref o), (1, .int v1), (2, .int v2), (3, .int v3), (6, .int v6)] dX3_nearestSet_88 rfl 8 hNL (by decide) rfl ?_
            refine g_lv (lv' := [(0, .ref o), (1, .int v1), (2, .int v2), (3, .int v3), (4, .int (absI (x4 - v3))), (5, .int v6), (6, .int v6)]) [3, 4, 5, 6, 1, 0, 7] rfl ?_
            exact J_90 _ _ _ h
  unfold f_X3_nearestSet at h
  refine g_sipush C 3 (1000 : Int32) dX3_nearestSet_0 rfl rfl ?_
  refine g_istore C 5 4 [(4, .int (1000 : Int32)), (0, .ref o), (1, .int v1), (2, .int v2), (3, .int v3)] dX3_nearestSet_3 rfl 8 hNL (by decide) rfl ?_
  refine g_bipush C 7 (-9 : Int32) dX3_nearestSet_5 rfl rfl ?_
  refine g_istore C 9 5 [(5, .int (-9 : Int32)), (4, .int (1000 : Int32)), (0, .ref o), (1, .int v1), (2, .int v2), (3, .int v3)] dX3_nearestSet_7 rfl 8 hNL (by decide) rfl ?_
  refine g_iconst C 10 (1 : Int32) dX3_nearestSet_9 rfl rfl ?_
  refine g_istore C 12 6 [(6, .int (1 : Int32)), (5, .int (-9 : Int32)), (4, .int (1000 : Int32)), (0, .ref o), (1, .int v1), (2, .int v2), (3, .int v3)] dX3_nearestSet_10 rfl 8 hNL (by decide) rfl ?_
  refine g_lv (lv' := [(0, .ref o), (1, .int v1), (2, .int v2), (3, .int v3), (4, .int (1000 : Int32)), (5, .int (-9 : Int32)), (6, .int (1 : Int32))]) [3, 4, 5, 6, 2, 1, 0] rfl ?_
  exact J_12 _ _ _ _ _ _ _ h
set_option maxHeartbeats 4000000 in
set_option maxRecDepth 100000 in
theorem ct_X3_waysThrough (L : LL) (o : Nat) (t : Nat) (q : Nat → Nat) (T : OS) (v1 : Int32) (x : Int32) (h : f_X3_waysThrough T v1 = some x) : Ct L yX3_waysThrough cX3_waysThrough 4 (some .int) (rmk 1 0 0 21) 0 0 [.ref o, .int v1] (cells3 L o t q T) (Pv (some (.int x)) (cells3 L o t q T)) := by
  refine g_enter (lv := [(0, .ref o), (1, .int v1)]) kX3_waysThrough rfl rfl (Nat.le_of_ble_eq_true rfl) (fun Γ C E hNL => ?_)
  have J_4 : ∀ (n : Nat) (v1 : Int32) (v2 : Int32) (v3 : Int32), Lp2 (b_X3_waysThrough_4 T  v1) n v2 v3 = some x → G L Γ 0 0 (cells3 L o t q T) 4 [(0, .ref o), (1, .int v1), (2, .int v2), (3, .int v3)] [] := by
    intro n v1
    refine lp_ok2 (fun v2 v3 => G L Γ 0 0 (cells3 L o t q T) 4 [(0, .ref o), (1, .int v1), (2, .int v2), (3, .int v3)] []) (fun k_4 hk_4 => ?_) n
    have J_40 : ∀ (v2 : Int32) (v3 : Int32), j_X3_waysThrough_40 T k_4 v1 v2 v3 = some x → G L Γ 0 0 (cells3 L o t q T) 40 [(0, .ref o), (1, .int v1), (2, .int v2), (3, .int v3)] [] := by
      intro v2 v3 h
      unfold j_X3_waysThrough_40 at h
      refine g_iinc C 43 (1 : Int32) 3 [(3, .int (v3 + (1 : Int32))), (0, .ref o), (1, .int v1), (2, .int v2)] dX3_waysThrough_40 rfl rfl 4 hNL (by decide) rfl rfl ?_
      refine g_goto C 4 dX3_waysThrough_43 (by decide) ?_
      refine g_lv (lv' := [(0, .ref o), (1, .int v1), (2, .int v2), (3, .int (v3 + (1 : Int32)))]) [1, 2, 3, 0] rfl ?_
      exact hk_4 _ _ h
    intro v2 v3 h
    unfold b_X3_waysThrough_4 at h
    refine g_iload_n C 5 3 dX3_waysThrough_4 rfl rfl ?_
    refine g_aload_n C 6 0 dX3_waysThrough_5 rfl rfl ?_
    refine g_get (v := .ref t) C 9 3 0 0 hin_3 rfl rfl (by decide) wf_X3_9 rfl dX3_waysThrough_6 rfl ?_
    refine g_get (v := .int (T.1 1)) C 12 6 1 1 hin_6 rfl rfl (by decide) wf_X3_31 rfl dX3_waysThrough_9 rfl ?_
    refine g_icmp_ge C 46 15 dX3_waysThrough_12 (by decide) rfl (fun c => ?_) (fun c => ?_)
    · have h := ifT c h
      refine g_iload_n C 47 2 dX3_waysThrough_46 rfl rfl ?_
      exact g_iret (st := []) C E dX3_waysThrough_47 (by obtain rfl := Option.some.inj h; exact ⟨rfl, rfl⟩)
    · have h := ifF c h
      refine g_iload_n C 16 1 dX3_waysThrough_15 rfl rfl ?_
      refine g_if_lt C 40 19 dX3_waysThrough_16 (by decide) rfl (fun c => ?_) (fun c => ?_)
      · have h := ifT c h
        exact J_40 _ _ h
      · have h := ifF c h
        refine g_aload_n C 20 0 dX3_waysThrough_19 rfl rfl ?_
        refine g_get (v := .ref t) C 23 3 0 0 hin_3 rfl rfl (by decide) wf_X3_9 rfl dX3_waysThrough_20 rfl ?_
        refine g_get (v := .ref (q 9)) C 26 6 1 9 hin_6 rfl rfl (by decide) wf_X3_15 rfl dX3_waysThrough_23 rfl ?_
        refine g_iload_n C 27 3 dX3_waysThrough_26 rfl rfl ?_
        refine bnd h (fun x1 e1 h => ?_)
        refine g_callNr C 30 [] [.int x1] (ct_X7_at L (q 9) 6 (T.2 9) v3 x1 e1) kX7_at kvX7_at wn_X3_21 [5] rfl rfl rfl rfl rfl (Nat.le_of_ble_eq_true rfl) ⟨Nat.le_of_ble_eq_true rfl, Nat.le_of_ble_eq_true rfl⟩ ⟨Nat.zero_le _, Nat.zero_le _⟩ dX3_waysThrough_27 rfl ?_
        refine g_iload_n C 31 1 dX3_waysThrough_30 rfl rfl ?_
        refine bnd h (fun x2 e2 h => ?_)
        refine g_callNr C 34 [] [.int x2] (ct_X7_has L x1 v1 x2 e2) kX7_has kvX7_has wn_X3_49 [] rfl rfl rfl rfl rfl (Nat.le_of_ble_eq_true rfl) ⟨Nat.le_of_ble_eq_true rfl, Nat.le_of_ble_eq_true rfl⟩ ⟨Nat.zero_le _, Nat.zero_le _⟩ dX3_waysThrough_31 rfl ?_
        refine g_if_eq C 40 37 dX3_waysThrough_34 (by decide) rfl (fun c => ?_) (fun c => ?_)
        · have h := ifT c h
          exact J_40 _ _ h
        · have h := ifF c h
          refine g_iinc C 40 (1 : Int32) 2 [(2, .int (v2 + (1 : Int32))), (0, .ref o), (1, .int v1), (3, .int v3)] dX3_waysThrough_37 rfl rfl 4 hNL (by decide) rfl rfl ?_
          refine g_lv (lv' := [(0, .ref o), (1, .int v1), (2, .int (v2 + (1 : Int32))), (3, .int v3)]) [1, 2, 0, 3] rfl ?_
          exact J_40 _ _ h
  unfold f_X3_waysThrough at h
  refine g_iconst C 1 (0 : Int32) dX3_waysThrough_0 rfl rfl ?_
  refine g_istore_n C 2 2 [(2, .int (0 : Int32)), (0, .ref o), (1, .int v1)] dX3_waysThrough_1 rfl rfl 4 hNL (by decide) rfl ?_
  refine g_iconst C 3 (0 : Int32) dX3_waysThrough_2 rfl rfl ?_
  refine g_istore_n C 4 3 [(3, .int (0 : Int32)), (2, .int (0 : Int32)), (0, .ref o), (1, .int v1)] dX3_waysThrough_3 rfl rfl 4 hNL (by decide) rfl ?_
  refine g_lv (lv' := [(0, .ref o), (1, .int v1), (2, .int (0 : Int32)), (3, .int (0 : Int32))]) [2, 3, 1, 0] rfl ?_
  exact J_4 _ _ _ _ h
set_option maxHeartbeats 4000000 in
set_option maxRecDepth 100000 in
theorem ct_X3_mostCrowded (L : LL) (o : Nat) (t : Nat) (q : Nat → Nat) (T : OS) (x : Int32) (h : f_X3_mostCrowded T = some x) : Ct L yX3_mostCrowded cX3_mostCrowded 5 (some .int) (rmk 2 0 0 44) 0 0 [.ref o] (cells3 L o t q T) (Pv (some (.int x)) (cells3 L o t q T)) := by
  refine g_enter (lv := [(0, .ref o)]) kX3_mostCrowded rfl rfl (Nat.le_of_ble_eq_true rfl) (fun Γ C E hNL => ?_)
  have J_7 : ∀ (n : Nat)  (v1 : Int32) (v2 : Int32) (v3 : Int32), Lp3 (b_X3_mostCrowded_7 T  ) n v1 v2 v3 = some x → G L Γ 0 0 (cells3 L o t q T) 7 [(0, .ref o), (1, .int v1), (2, .int v2), (3, .int v3)] [] := by
    intro n 
    refine lp_ok3 (fun v1 v2 v3 => G L Γ 0 0 (cells3 L o t q T) 7 [(0, .ref o), (1, .int v1), (2, .int v2), (3, .int v3)] []) (fun k_7 hk_7 => ?_) n
    have J_36 : ∀ (v1 : Int32) (v2 : Int32) (v3 : Int32), j_X3_mostCrowded_36 T k_7 v1 v2 v3 = some x → G L Γ 0 0 (cells3 L o t q T) 36 [(0, .ref o), (1, .int v1), (2, .int v2), (3, .int v3)] [] := by
      intro v1 v2 v3 h
      unfold j_X3_mostCrowded_36 at h
      refine g_iinc C 39 (1 : Int32) 3 [(3, .int (v3 + (1 : Int32))), (0, .ref o), (1, .int v1), (2, .int v2)] dX3_mostCrowded_36 rfl rfl 5 hNL (by decide) rfl rfl ?_
      refine g_goto C 7 dX3_mostCrowded_39 (by decide) ?_
      refine g_lv (lv' := [(0, .ref o), (1, .int v1), (2, .int v2), (3, .int (v3 + (1 : Int32)))]) [1, 2, 3, 0] rfl ?_
      exact hk_7 _ _ _ h
    intro v1 v2 v3 h
    unfold b_X3_mostCrowded_7 at h
    refine g_iload_n C 8 3 dX3_mostCrowded_7 rfl rfl ?_
    refine g_aload_n C 9 0 dX3_mostCrowded_8 rfl rfl ?_
    refine g_get (v := .ref t) C 12 3 0 0 hin_3 rfl rfl (by decide) wf_X3_9 rfl dX3_mostCrowded_9 rfl ?_
    refine g_get (v := .int (T.1 0)) C 15 6 1 0 hin_6 rfl rfl (by decide) wf_X3_82 rfl dX3_mostCrowded_12 rfl ?_
    refine g_icmp_ge C 42 18 dX3_mostCrowded_15 (by decide) rfl (fun c => ?_) (fun c => ?_)
    · have h := ifT c h
      refine g_iload_n C 43 2 dX3_mostCrowded_42 rfl rfl ?_
      exact g_iret (st := []) C E dX3_mostCrowded_43 (by obtain rfl := Option.some.inj h; exact ⟨rfl, rfl⟩)
    · have h := ifF c h
      refine g_aload_n C 19 0 dX3_mostCrowded_18 rfl rfl ?_
      refine g_iload_n C 20 3 dX3_mostCrowded_19 rfl rfl ?_
      refine bnd h (fun x1 e1 h => ?_)
      refine g_callVr C 23 [] [.int x1] (ct_X3_waysThrough L o t q T v3 x1 e1) kX3_waysThrough kvX3_waysThrough wl_X3_85 3 0 rfl rfl rfl [0, 1, 2, 3, 4, 5, 6, 7] rfl rfl rfl rfl rfl (Nat.le_of_ble_eq_true rfl) ⟨Nat.le_of_ble_eq_true rfl, Nat.le_of_ble_eq_true rfl⟩ ⟨Nat.zero_le _, Nat.zero_le _⟩ dX3_mostCrowded_20 rfl ?_
      refine g_istore C 25 4 [(4, .int x1), (0, .ref o), (1, .int v1), (2, .int v2), (3, .int v3)] dX3_mostCrowded_23 rfl 5 hNL (by decide) rfl ?_
      refine g_iload C 27 0 dX3_mostCrowded_25 rfl rfl ?_
      refine g_iload_n C 28 2 dX3_mostCrowded_27 rfl rfl ?_
      refine g_icmp_le C 36 31 dX3_mostCrowded_28 (by decide) rfl (fun c => ?_) (fun c => ?_)
      · have h := ifT c h
        refine g_lv (lv' := [(0, .ref o), (1, .int v1), (2, .int v2), (3, .int v3)]) [1, 2, 3, 4] rfl ?_
        exact J_36 _ _ _ h
      · have h := ifF c h
        refine g_iload C 33 0 dX3_mostCrowded_31 rfl rfl ?_
        refine g_istore_n C 34 1 [(1, .int x1), (4, .int x1), (0, .ref o), (2, .int v2), (3, .int v3)] dX3_mostCrowded_33 rfl rfl 5 hNL (by decide) rfl ?_
        refine g_iload_n C 35 4 dX3_mostCrowded_34 rfl rfl ?_
        refine g_istore_n C 36 2 [(2, .int v3), (1, .int x1), (4, .int x1), (0, .ref o), (3, .int v3)] dX3_mostCrowded_35 rfl rfl 5 hNL (by decide) rfl ?_
        refine g_lv (lv' := [(0, .ref o), (1, .int x1), (2, .int v3), (3, .int v3)]) [3, 1, 0, 4] rfl ?_
        exact J_36 _ _ _ h
  unfold f_X3_mostCrowded at h
  refine g_iconst C 1 (-1 : Int32) dX3_mostCrowded_0 rfl rfl ?_
  refine g_istore_n C 2 1 [(1, .int (-1 : Int32)), (0, .ref o)] dX3_mostCrowded_1 rfl rfl 5 hNL (by decide) rfl ?_
  refine g_bipush C 4 (-9 : Int32) dX3_mostCrowded_2 rfl rfl ?_
  refine g_istore_n C 5 2 [(2, .int (-9 : Int32)), (1, .int (-1 : Int32)), (0, .ref o)] dX3_mostCrowded_4 rfl rfl 5 hNL (by decide) rfl ?_
  refine g_iconst C 6 (0 : Int32) dX3_mostCrowded_5 rfl rfl ?_
  refine g_istore_n C 7 3 [(3, .int (0 : Int32)), (2, .int (-9 : Int32)), (1, .int (-1 : Int32)), (0, .ref o)] dX3_mostCrowded_6 rfl rfl 5 hNL (by decide) rfl ?_
  refine g_lv (lv' := [(0, .ref o), (1, .int (-1 : Int32)), (2, .int (-9 : Int32)), (3, .int (0 : Int32))]) [3, 2, 1, 0] rfl ?_
  exact J_7 _ _ _ _ h
set_option maxHeartbeats 4000000 in
set_option maxRecDepth 100000 in
theorem ct_X3_hardestHour (L : LL) (o : Nat) (t : Nat) (q : Nat → Nat) (T : OS) (v1 : Int32) (x : Int32) (h : f_X3_hardestHour T v1 = some x) : Ct L yX3_hardestHour cX3_hardestHour 7 (some .int) (rmk 3 0 0 68) 0 0 [.ref o, .int v1] (cells3 L o t q T) (Pv (some (.int x)) (cells3 L o t q T)) := by
  refine g_enter (lv := [(0, .ref o), (1, .int v1)]) kX3_hardestHour rfl rfl (Nat.le_of_ble_eq_true rfl) (fun Γ C E hNL => ?_)
  have J_20 : ∀ (n : Nat) (v2 : Int32) (v3 : Int32) (v4 : Int32) (v5 : Int32), Lp3 (b_X3_hardestHour_20 T  v2) n v3 v4 v5 = some x → G L Γ 0 0 (cells3 L o t q T) 20 [(0, .ref o), (2, .int v2), (3, .int v3), (4, .int v4), (5, .int v5)] [] := by
    intro n v2
    refine lp_ok3 (fun v3 v4 v5 => G L Γ 0 0 (cells3 L o t q T) 20 [(0, .ref o), (2, .int v2), (3, .int v3), (4, .int v4), (5, .int v5)] []) (fun k_20 hk_20 => ?_) n
    have J_52 : ∀ (v3 : Int32) (v4 : Int32) (v5 : Int32), j_X3_hardestHour_52 T k_20 v2 v3 v4 v5 = some x → G L Γ 0 0 (cells3 L o t q T) 52 [(0, .ref o), (2, .int v2), (3, .int v3), (4, .int v4), (5, .int v5)] [] := by
      intro v3 v4 v5 h
      unfold j_X3_hardestHour_52 at h
      refine g_iinc C 55 (1 : Int32) 4 [(5, .int (v5 + (1 : Int32))), (0, .ref o), (2, .int v2), (3, .int v3), (4, .int v4)] dX3_hardestHour_52 rfl rfl 7 hNL (by decide) rfl rfl ?_
      refine g_goto C 20 dX3_hardestHour_55 (by decide) ?_
      refine g_lv (lv' := [(0, .ref o), (2, .int v2), (3, .int v3), (4, .int v4), (5, .int (v5 + (1 : Int32)))]) [1, 2, 3, 4, 0] rfl ?_
      exact hk_20 _ _ _ h
    intro v3 v4 v5 h
    unfold b_X3_hardestHour_20 at h
    refine g_iload C 22 4 dX3_hardestHour_20 rfl rfl ?_
    refine g_bipush C 24 (24 : Int32) dX3_hardestHour_22 rfl rfl ?_
    refine g_icmp_ge C 58 27 dX3_hardestHour_24 (by decide) rfl (fun c => ?_) (fun c => ?_)
    · have h := ifT c h
      refine g_iload C 60 3 dX3_hardestHour_58 rfl rfl ?_
      exact g_iret (st := []) C E dX3_hardestHour_60 (by obtain rfl := Option.some.inj h; exact ⟨rfl, rfl⟩)
    · have h := ifF c h
      refine g_aload_n C 28 0 dX3_hardestHour_27 rfl rfl ?_
      refine g_get (v := .ref t) C 31 3 0 0 hin_3 rfl rfl (by decide) wf_X3_9 rfl dX3_hardestHour_28 rfl ?_
      refine g_iload_n C 32 1 dX3_hardestHour_31 rfl rfl ?_
      refine g_iload C 34 4 dX3_hardestHour_32 rfl rfl ?_
      refine bnd h (fun x2 e2 h => ?_)
      refine g_callVr C 37 [] [.int x2] (ct_X6_hardOn L t q T v2 v5 x2 e2) kX6_hardOn kvX6_hardOn wl_X3_53 6 0 rfl rfl rfl [1, 2, 3, 4, 5, 6, 7] rfl rfl rfl rfl rfl (Nat.le_of_ble_eq_true rfl) ⟨Nat.le_of_ble_eq_true rfl, Nat.le_of_ble_eq_true rfl⟩ ⟨Nat.zero_le _, Nat.zero_le _⟩ dX3_hardestHour_34 rfl ?_
      refine g_istore C 39 6 [(6, .int x2), (0, .ref o), (2, .int v2), (3, .int v3), (4, .int v4), (5, .int v5)] dX3_hardestHour_37 rfl 7 hNL (by decide) rfl ?_
      refine g_iload C 41 0 dX3_hardestHour_39 rfl rfl ?_
      refine g_iload_n C 42 3 dX3_hardestHour_41 rfl rfl ?_
      refine g_icmp_le C 52 45 dX3_hardestHour_42 (by decide) rfl (fun c => ?_) (fun c => ?_)
      · have h := ifT c h
        refine g_lv (lv' := [(0, .ref o), (2, .int v2), (3, .int v3), (4, .int v4), (5, .int v5)]) [1, 2, 3, 4, 5] rfl ?_
        exact J_52 _ _ _ h
      · have h := ifF c h
        refine g_iload C 47 0 dX3_hardestHour_45 rfl rfl ?_
        refine g_istore_n C 48 3 [(3, .int x2), (6, .int x2), (0, .ref o), (2, .int v2), (4, .int v4), (5, .int v5)] dX3_hardestHour_47 rfl rfl 7 hNL (by decide) rfl ?_
        refine g_iload C 50 5 dX3_hardestHour_48 rfl rfl ?_
        refine g_istore C 52 4 [(4, .int v5), (3, .int x2), (6, .int x2), (0, .ref o), (2, .int v2), (5, .int v5)] dX3_hardestHour_50 rfl 7 hNL (by decide) rfl ?_
        refine g_lv (lv' := [(0, .ref o), (2, .int v2), (3, .int x2), (4, .int v5), (5, .int v5)]) [3, 4, 1, 0, 5] rfl ?_
        exact J_52 _ _ _ h
  unfold f_X3_hardestHour at h
  refine g_aload_n C 1 0 dX3_hardestHour_0 rfl rfl ?_
  refine g_get (v := .ref t) C 4 3 0 0 hin_3 rfl rfl (by decide) wf_X3_9 rfl dX3_hardestHour_1 rfl ?_
  refine g_get (v := .ref (q 9)) C 7 6 1 9 hin_6 rfl rfl (by decide) wf_X3_15 rfl dX3_hardestHour_4 rfl ?_
  refine g_iload_n C 8 1 dX3_hardestHour_7 rfl rfl ?_
  refine bnd h (fun x1 e1 h => ?_)
  refine g_callNr C 11 [] [.int x1] (ct_X7_at L (q 9) 6 (T.2 9) v1 x1 e1) kX7_at kvX7_at wn_X3_21 [5] rfl rfl rfl rfl rfl (Nat.le_of_ble_eq_true rfl) ⟨Nat.le_of_ble_eq_true rfl, Nat.le_of_ble_eq_true rfl⟩ ⟨Nat.zero_le _, Nat.zero_le _⟩ dX3_hardestHour_8 rfl ?_
  refine g_istore_n C 12 2 [(2, .int x1), (0, .ref o), (1, .int v1)] dX3_hardestHour_11 rfl rfl 7 hNL (by decide) rfl ?_
  refine g_iconst C 13 (-1 : Int32) dX3_hardestHour_12 rfl rfl ?_
  refine g_istore_n C 14 3 [(3, .int (-1 : Int32)), (2, .int x1), (0, .ref o), (1, .int v1)] dX3_hardestHour_13 rfl rfl 7 hNL (by decide) rfl ?_
  refine g_iconst C 15 (0 : Int32) dX3_hardestHour_14 rfl rfl ?_
  refine g_istore C 17 4 [(4, .int (0 : Int32)), (3, .int (-1 : Int32)), (2, .int x1), (0, .ref o), (1, .int v1)] dX3_hardestHour_15 rfl 7 hNL (by decide) rfl ?_
  refine g_iconst C 18 (0 : Int32) dX3_hardestHour_17 rfl rfl ?_
  refine g_istore C 20 5 [(5, .int (0 : Int32)), (4, .int (0 : Int32)), (3, .int (-1 : Int32)), (2, .int x1), (0, .ref o), (1, .int v1)] dX3_hardestHour_18 rfl 7 hNL (by decide) rfl ?_
  refine g_lv (lv' := [(0, .ref o), (2, .int x1), (3, .int (-1 : Int32)), (4, .int (0 : Int32)), (5, .int (0 : Int32))]) [4, 3, 2, 1, 0] rfl ?_
  exact J_20 _ _ _ _ _ h
set_option maxHeartbeats 4000000 in
set_option maxRecDepth 100000 in
theorem ct_X3_longestWay (L : LL) (o : Nat) (t : Nat) (q : Nat → Nat) (T : OS) (x : Int32) (h : f_X3_longestWay T = some x) : Ct L yX3_longestWay cX3_longestWay 5 (some .int) (rmk 2 0 0 44) 0 0 [.ref o] (cells3 L o t q T) (Pv (some (.int x)) (cells3 L o t q T)) := by
  refine g_enter (lv := [(0, .ref o)]) kX3_longestWay rfl rfl (Nat.le_of_ble_eq_true rfl) (fun Γ C E hNL => ?_)
  have J_7 : ∀ (n : Nat)  (v1 : Int32) (v2 : Int32) (v3 : Int32), Lp3 (b_X3_longestWay_7 T  ) n v1 v2 v3 = some x → G L Γ 0 0 (cells3 L o t q T) 7 [(0, .ref o), (1, .int v1), (2, .int v2), (3, .int v3)] [] := by
    intro n 
    refine lp_ok3 (fun v1 v2 v3 => G L Γ 0 0 (cells3 L o t q T) 7 [(0, .ref o), (1, .int v1), (2, .int v2), (3, .int v3)] []) (fun k_7 hk_7 => ?_) n
    have J_49 : ∀ (v1 : Int32) (v2 : Int32) (v3 : Int32), j_X3_longestWay_49 T k_7 v1 v2 v3 = some x → G L Γ 0 0 (cells3 L o t q T) 49 [(0, .ref o), (1, .int v1), (2, .int v2), (3, .int v3)] [] := by
      intro v1 v2 v3 h
      unfold j_X3_longestWay_49 at h
      refine g_iinc C 52 (1 : Int32) 3 [(3, .int (v3 + (1 : Int32))), (0, .ref o), (1, .int v1), (2, .int v2)] dX3_longestWay_49 rfl rfl 5 hNL (by decide) rfl rfl ?_
      refine g_goto C 7 dX3_longestWay_52 (by decide) ?_
      refine g_lv (lv' := [(0, .ref o), (1, .int v1), (2, .int v2), (3, .int (v3 + (1 : Int32)))]) [1, 2, 3, 0] rfl ?_
      exact hk_7 _ _ _ h
    intro v1 v2 v3 h
    unfold b_X3_longestWay_7 at h
    refine g_iload_n C 8 3 dX3_longestWay_7 rfl rfl ?_
    refine g_aload_n C 9 0 dX3_longestWay_8 rfl rfl ?_
    refine g_get (v := .ref t) C 12 3 0 0 hin_3 rfl rfl (by decide) wf_X3_9 rfl dX3_longestWay_9 rfl ?_
    refine g_get (v := .int (T.1 1)) C 15 6 1 1 hin_6 rfl rfl (by decide) wf_X3_31 rfl dX3_longestWay_12 rfl ?_
    refine g_icmp_ge C 55 18 dX3_longestWay_15 (by decide) rfl (fun c => ?_) (fun c => ?_)
    · have h := ifT c h
      refine g_iload_n C 56 2 dX3_longestWay_55 rfl rfl ?_
      exact g_iret (st := []) C E dX3_longestWay_56 (by obtain rfl := Option.some.inj h; exact ⟨rfl, rfl⟩)
    · have h := ifF c h
      refine g_aload_n C 19 0 dX3_longestWay_18 rfl rfl ?_
      refine g_get (v := .ref t) C 22 3 0 0 hin_3 rfl rfl (by decide) wf_X3_9 rfl dX3_longestWay_19 rfl ?_
      refine g_aload_n C 23 0 dX3_longestWay_22 rfl rfl ?_
      refine g_get (v := .ref t) C 26 3 0 0 hin_3 rfl rfl (by decide) wf_X3_9 rfl dX3_longestWay_23 rfl ?_
      refine g_get (v := .ref (q 9)) C 29 6 1 9 hin_6 rfl rfl (by decide) wf_X3_15 rfl dX3_longestWay_26 rfl ?_
      refine g_iload_n C 30 3 dX3_longestWay_29 rfl rfl ?_
      refine bnd h (fun x1 e1 h => ?_)
      refine g_callNr C 33 [.ref t] [.int x1, .ref t] (ct_X7_at L (q 9) 6 (T.2 9) v3 x1 e1) kX7_at kvX7_at wn_X3_21 [5] rfl rfl rfl rfl rfl (Nat.le_of_ble_eq_true rfl) ⟨Nat.le_of_ble_eq_true rfl, Nat.le_of_ble_eq_true rfl⟩ ⟨Nat.zero_le _, Nat.zero_le _⟩ dX3_longestWay_30 rfl ?_
      refine bnd h (fun x2 e2 h => ?_)
      refine g_callVr C 36 [] [.int x2] (ct_X6_minutesOn L t q T x1 x2 e2) kX6_minutesOn kvX6_minutesOn wl_X3_73 6 0 rfl rfl rfl [1, 2, 3, 4, 5, 6, 7] rfl rfl rfl rfl rfl (Nat.le_of_ble_eq_true rfl) ⟨Nat.le_of_ble_eq_true rfl, Nat.le_of_ble_eq_true rfl⟩ ⟨Nat.zero_le _, Nat.zero_le _⟩ dX3_longestWay_33 rfl ?_
      refine g_istore C 38 4 [(4, .int x2), (0, .ref o), (1, .int v1), (2, .int v2), (3, .int v3)] dX3_longestWay_36 rfl 5 hNL (by decide) rfl ?_
      refine g_iload C 40 0 dX3_longestWay_38 rfl rfl ?_
      refine g_iload_n C 41 2 dX3_longestWay_40 rfl rfl ?_
      refine g_icmp_le C 49 44 dX3_longestWay_41 (by decide) rfl (fun c => ?_) (fun c => ?_)
      · have h := ifT c h
        refine g_lv (lv' := [(0, .ref o), (1, .int v1), (2, .int v2), (3, .int v3)]) [1, 2, 3, 4] rfl ?_
        exact J_49 _ _ _ h
      · have h := ifF c h
        refine g_iload C 46 0 dX3_longestWay_44 rfl rfl ?_
        refine g_istore_n C 47 1 [(1, .int x2), (4, .int x2), (0, .ref o), (2, .int v2), (3, .int v3)] dX3_longestWay_46 rfl rfl 5 hNL (by decide) rfl ?_
        refine g_iload_n C 48 4 dX3_longestWay_47 rfl rfl ?_
        refine g_istore_n C 49 2 [(2, .int v3), (1, .int x2), (4, .int x2), (0, .ref o), (3, .int v3)] dX3_longestWay_48 rfl rfl 5 hNL (by decide) rfl ?_
        refine g_lv (lv' := [(0, .ref o), (1, .int x2), (2, .int v3), (3, .int v3)]) [3, 1, 0, 4] rfl ?_
        exact J_49 _ _ _ h
  unfold f_X3_longestWay at h
  refine g_iconst C 1 (-1 : Int32) dX3_longestWay_0 rfl rfl ?_
  refine g_istore_n C 2 1 [(1, .int (-1 : Int32)), (0, .ref o)] dX3_longestWay_1 rfl rfl 5 hNL (by decide) rfl ?_
  refine g_bipush C 4 (-9 : Int32) dX3_longestWay_2 rfl rfl ?_
  refine g_istore_n C 5 2 [(2, .int (-9 : Int32)), (1, .int (-1 : Int32)), (0, .ref o)] dX3_longestWay_4 rfl rfl 5 hNL (by decide) rfl ?_
  refine g_iconst C 6 (0 : Int32) dX3_longestWay_5 rfl rfl ?_
  refine g_istore_n C 7 3 [(3, .int (0 : Int32)), (2, .int (-9 : Int32)), (1, .int (-1 : Int32)), (0, .ref o)] dX3_longestWay_6 rfl rfl 5 hNL (by decide) rfl ?_
  refine g_lv (lv' := [(0, .ref o), (1, .int (-1 : Int32)), (2, .int (-9 : Int32)), (3, .int (0 : Int32))]) [3, 2, 1, 0] rfl ?_
  exact J_7 _ _ _ _ h
