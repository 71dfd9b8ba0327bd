set_option maxHeartbeats 4000000 in
set_option maxRecDepth 100000 in
theorem ct_X0_add (L : LL) (o : Nat) (u : Nat → Nat) (S : OS) (v1 : Int32) (x : (Int32 × OS)) (h : f_X0_add S v1 = some x) : Ct L yX0_add cX0_add 2 (some .int) (rmk 1 0 0 22) 0 0 [.ref o, .int v1] (cells0 L o u S) (Pv (some (.int x.1)) (cells0 L o u x.2)) := by
  refine g_enter (lv := [(0, .ref o), (1, .int v1)]) kX0_add rfl rfl (Nat.le_of_ble_eq_true rfl) (fun Γ C E hNL => ?_)
  unfold f_X0_add at h
  refine g_aload_n C 1 0 dX0_add_0 rfl rfl ?_
  refine g_get (v := .ref (u 1)) C 4 0 0 1 hin_0 rfl rfl (by decide) wf_X0_15 rfl dX0_add_1 rfl ?_
  refine g_aload_n C 5 0 dX0_add_4 rfl rfl ?_
  refine g_get (v := .int (S.1 0)) C 8 0 0 0 hin_0 rfl rfl (by decide) wf_X0_9 rfl dX0_add_5 rfl ?_
  refine g_iload_n C 9 1 dX0_add_8 rfl rfl ?_
  refine bnd h (fun x1 e1 h => ?_)
  refine g_callNw (w' := (cells0 L o u (sa S 1 x1))) C 12 [] [] (ct_X7_store L (u 1) 96 (S.2 1) (S.1 0) v1 x1 e1) kX7_store kvX7_store wn_X0_19 [1] rfl rfl rfl rfl rfl rfl rfl (Nat.le_of_ble_eq_true rfl) ⟨Nat.le_of_ble_eq_true rfl, Nat.le_of_ble_eq_true rfl⟩ ⟨Nat.zero_le _, Nat.zero_le _⟩ dX0_add_9 rfl ?_
  refine g_aload_n C 13 0 dX0_add_12 rfl rfl ?_
  refine g_dup C 14 dX0_add_13 rfl rfl ?_
  refine g_get (v := .int (S.1 0)) C 17 0 0 0 hin_0 rfl rfl (by decide) wf_X0_9 rfl dX0_add_14 rfl ?_
  refine g_iconst C 18 (1 : Int32) dX0_add_17 rfl rfl ?_
  refine g_iadd C 19 dX0_add_18 rfl ?_
  refine g_put (w' := (cells0 L o u (su (sa S 1 x1) 0 ((S.1 0) + (1 : Int32))))) C 22 0 0 0 hin_0 tyX0 tyX0_ok nmX0 rfl rfl (by decide) wf_X0_9 rfl rfl rfl (Nat.le_of_ble_eq_true rfl) dX0_add_19 rfl rfl ?_
  refine g_aload_n C 23 0 dX0_add_22 rfl rfl ?_
  refine g_get (v := .int ((S.1 0) + (1 : Int32))) C 26 0 0 0 hin_0 rfl rfl (by decide) wf_X0_9 rfl dX0_add_23 rfl ?_
  exact g_iret (st := []) C E dX0_add_26 (by obtain rfl := Option.some.inj h; exact ⟨rfl, rfl⟩)
set_option maxHeartbeats 4000000 in
set_option maxRecDepth 100000 in
theorem ct_X0_digitsBehind (L : LL) (v0 : Int32) (x : Int32) (h : f_X0_digitsBehind v0 = some x) : Ct L yX0_digitsBehind cX0_digitsBehind 1 (some .int) (rmk 0 0 0 0) 0 0 [.int v0] [] (Pv (some (.int x)) []) := by
  refine g_enter (lv := [(0, .int v0)]) kX0_digitsBehind rfl rfl (Nat.le_of_ble_eq_true rfl) (fun Γ C E hNL => ?_)
  unfold f_X0_digitsBehind at h
  refine g_iload_n C 1 0 dX0_digitsBehind_0 rfl rfl ?_
  by_cases c100 : v0 = (100 : Int32)
  · have h := ifT c100 h
    refine g_tabIn C 102 (101) dX0_digitsBehind_1 (by rw [c100]; decide) (by rw [c100]; decide) (by rw [c100]; rfl) (by decide) ?_
    refine g_iconst C 103 (0 : Int32) dX0_digitsBehind_102 rfl rfl ?_
    exact g_iret (st := []) C E dX0_digitsBehind_103 (by obtain rfl := Option.some.inj h; exact ⟨rfl, rfl⟩)
  have h := ifF c100 h
  by_cases c104 : v0 = (104 : Int32)
  · have h := ifT c104 h
    refine g_tabIn C 98 (97) dX0_digitsBehind_1 (by rw [c104]; decide) (by rw [c104]; decide) (by rw [c104]; rfl) (by decide) ?_
    refine g_iconst C 99 (2 : Int32) dX0_digitsBehind_98 rfl rfl ?_
    exact g_iret (st := []) C E dX0_digitsBehind_99 (by obtain rfl := Option.some.inj h; exact ⟨rfl, rfl⟩)
  have h := ifF c104 h
  by_cases c107 : v0 = (107 : Int32)
  · have h := ifT c107 h
    refine g_tabIn C 98 (97) dX0_digitsBehind_1 (by rw [c107]; decide) (by rw [c107]; decide) (by rw [c107]; rfl) (by decide) ?_
    refine g_iconst C 99 (2 : Int32) dX0_digitsBehind_98 rfl rfl ?_
    exact g_iret (st := []) C E dX0_digitsBehind_99 (by obtain rfl := Option.some.inj h; exact ⟨rfl, rfl⟩)
  have h := ifF c107 h
  by_cases c108 : v0 = (108 : Int32)
  · have h := ifT c108 h
    refine g_tabIn C 100 (99) dX0_digitsBehind_1 (by rw [c108]; decide) (by rw [c108]; decide) (by rw [c108]; rfl) (by decide) ?_
    refine g_iconst C 101 (1 : Int32) dX0_digitsBehind_100 rfl rfl ?_
    exact g_iret (st := []) C E dX0_digitsBehind_101 (by obtain rfl := Option.some.inj h; exact ⟨rfl, rfl⟩)
  have h := ifF c108 h
  by_cases c109 : v0 = (109 : Int32)
  · have h := ifT c109 h
    refine g_tabIn C 98 (97) dX0_digitsBehind_1 (by rw [c109]; decide) (by rw [c109]; decide) (by rw [c109]; rfl) (by decide) ?_
    refine g_iconst C 99 (2 : Int32) dX0_digitsBehind_98 rfl rfl ?_
    exact g_iret (st := []) C E dX0_digitsBehind_99 (by obtain rfl := Option.some.inj h; exact ⟨rfl, rfl⟩)
  have h := ifF c109 h
  by_cases c115 : v0 = (115 : Int32)
  · have h := ifT c115 h
    refine g_tabIn C 96 (95) dX0_digitsBehind_1 (by rw [c115]; decide) (by rw [c115]; decide) (by rw [c115]; rfl) (by decide) ?_
    refine g_iconst C 97 (3 : Int32) dX0_digitsBehind_96 rfl rfl ?_
    exact g_iret (st := []) C E dX0_digitsBehind_97 (by obtain rfl := Option.some.inj h; exact ⟨rfl, rfl⟩)
  have h := ifF c115 h
  by_cases c116 : v0 = (116 : Int32)
  · have h := ifT c116 h
    refine g_tabIn C 98 (97) dX0_digitsBehind_1 (by rw [c116]; decide) (by rw [c116]; decide) (by rw [c116]; rfl) (by decide) ?_
    refine g_iconst C 99 (2 : Int32) dX0_digitsBehind_98 rfl rfl ?_
    exact g_iret (st := []) C E dX0_digitsBehind_99 (by obtain rfl := Option.some.inj h; exact ⟨rfl, rfl⟩)
  have h := ifF c116 h
  by_cases c119 : v0 = (119 : Int32)
  · have h := ifT c119 h
    refine g_tabIn C 96 (95) dX0_digitsBehind_1 (by rw [c119]; decide) (by rw [c119]; decide) (by rw [c119]; rfl) (by decide) ?_
    refine g_iconst C 97 (3 : Int32) dX0_digitsBehind_96 rfl rfl ?_
    exact g_iret (st := []) C E dX0_digitsBehind_97 (by obtain rfl := Option.some.inj h; exact ⟨rfl, rfl⟩)
  have h := ifF c119 h
  have t100 := ne_toInt c100 (show ((100 : Int32) : Int32).toInt = 100 by decide +kernel)
  have t104 := ne_toInt c104 (show ((104 : Int32) : Int32).toInt = 104 by decide +kernel)
  have t107 := ne_toInt c107 (show ((107 : Int32) : Int32).toInt = 107 by decide +kernel)
  have t108 := ne_toInt c108 (show ((108 : Int32) : Int32).toInt = 108 by decide +kernel)
  have t109 := ne_toInt c109 (show ((109 : Int32) : Int32).toInt = 109 by decide +kernel)
  have t115 := ne_toInt c115 (show ((115 : Int32) : Int32).toInt = 115 by decide +kernel)
  have t116 := ne_toInt c116 (show ((116 : Int32) : Int32).toInt = 116 by decide +kernel)
  have t119 := ne_toInt c119 (show ((119 : Int32) : Int32).toInt = 119 by decide +kernel)
  by_cases cr : (v0).toInt < 100 ∨ 119 < (v0).toInt
  · refine g_tabOut C 104 dX0_digitsBehind_1 cr (by decide) ?_
    refine g_iconst C 105 (-1 : Int32) dX0_digitsBehind_104 rfl rfl ?_
    exact g_iret (st := []) C E dX0_digitsBehind_105 (by obtain rfl := Option.some.inj h; exact ⟨rfl, rfl⟩)
  · have cx : (v0).toInt = 101 ∨ (v0).toInt = 102 ∨ (v0).toInt = 103 ∨ (v0).toInt = 105 ∨ (v0).toInt = 106 ∨ (v0).toInt = 110 ∨ (v0).toInt = 111 ∨ (v0).toInt = 112 ∨ (v0).toInt = 113 ∨ (v0).toInt = 114 ∨ (v0).toInt = 117 ∨ (v0).toInt = 118 := by omega
    refine g_tabIn C 104 (103) dX0_digitsBehind_1 (by omega) (by omega) (by rcases cx with cx | cx | cx | cx | cx | cx | cx | cx | cx | cx | cx | cx <;> (rw [cx]; rfl)) (by decide) ?_
    refine g_iconst C 105 (-1 : Int32) dX0_digitsBehind_104 rfl rfl ?_
    exact g_iret (st := []) C E dX0_digitsBehind_105 (by obtain rfl := Option.some.inj h; exact ⟨rfl, rfl⟩)
set_option maxHeartbeats 4000000 in
set_option maxRecDepth 100000 in
theorem ct_X0_firstWrongLetter (L : LL) (o : Nat) (u : Nat → Nat) (S : OS) (x : Int32) (h : f_X0_firstWrongLetter S = some x) : Ct L yX0_firstWrongLetter cX0_firstWrongLetter 5 (some .int) (rmk 1 0 0 21) 0 0 [.ref o] (cells0 L o u S) (Pv (some (.int x)) (cells0 L o u S)) := by
  refine g_enter (lv := [(0, .ref o)]) kX0_firstWrongLetter rfl rfl (Nat.le_of_ble_eq_true rfl) (fun Γ C E hNL => ?_)
  have J_88 : ∀ (v1 : Int32), j_X0_firstWrongLetter_88 S  v1 = some x → G L Γ 0 0 (cells0 L o u S) 88 [(0, .ref o), (1, .int v1)] [] := by
    intro v1 h
    unfold j_X0_firstWrongLetter_88 at h
    refine g_aload_n C 89 0 dX0_firstWrongLetter_88 rfl rfl ?_
    refine g_get (v := .int (S.1 0)) C 92 0 0 0 hin_0 rfl rfl (by decide) wf_X0_9 rfl dX0_firstWrongLetter_89 rfl ?_
    refine g_if_le C 103 95 dX0_firstWrongLetter_92 (by decide) rfl (fun c => ?_) (fun c => ?_)
    · have h := ifT c h
      refine g_aload_n C 104 0 dX0_firstWrongLetter_103 rfl rfl ?_
      refine g_get (v := .int (S.1 0)) C 107 0 0 0 hin_0 rfl rfl (by decide) wf_X0_9 rfl dX0_firstWrongLetter_104 rfl ?_
      exact g_iret (st := []) C E dX0_firstWrongLetter_107 (by obtain rfl := Option.some.inj h; exact ⟨rfl, rfl⟩)
    · have h := ifF c h
      refine g_iload_n C 96 1 dX0_firstWrongLetter_95 rfl rfl ?_
      refine g_if_eq C 103 99 dX0_firstWrongLetter_96 (by decide) rfl (fun c => ?_) (fun c => ?_)
      · have h := ifT c h
        refine g_aload_n C 104 0 dX0_firstWrongLetter_103 rfl rfl ?_
        refine g_get (v := .int (S.1 0)) C 107 0 0 0 hin_0 rfl rfl (by decide) wf_X0_9 rfl dX0_firstWrongLetter_104 rfl ?_
        exact g_iret (st := []) C E dX0_firstWrongLetter_107 (by obtain rfl := Option.some.inj h; exact ⟨rfl, rfl⟩)
      · have h := ifF c h
        refine g_iconst C 100 (-1 : Int32) dX0_firstWrongLetter_99 rfl rfl ?_
        refine g_goto C 107 dX0_firstWrongLetter_100 (by decide) ?_
        exact g_iret (st := []) C E dX0_firstWrongLetter_107 (by obtain rfl := Option.some.inj h; exact ⟨rfl, rfl⟩)
  have J_6 : ∀ (n : Nat)  (v1 : Int32) (v2 : Int32) (v3 : Int32), Lp3 (b_X0_firstWrongLetter_6 S  ) n v1 v2 v3 = some x → G L Γ 0 0 (cells0 L o u S) 6 [(0, .ref o), (1, .int v1), (2, .int v2), (3, .int v3)] [] := by
    intro n 
    refine lp_ok3 (fun v1 v2 v3 => G L Γ 0 0 (cells0 L o u S) 6 [(0, .ref o), (1, .int v1), (2, .int v2), (3, .int v3)] []) (fun k_6 hk_6 => ?_) n
    have J_82 : ∀ (v1 : Int32) (v2 : Int32) (v3 : Int32), j_X0_firstWrongLetter_82 S k_6 v1 v2 v3 = some x → G L Γ 0 0 (cells0 L o u S) 82 [(0, .ref o), (1, .int v1), (2, .int v2), (3, .int v3)] [] := by
      intro v1 v2 v3 h
      unfold j_X0_firstWrongLetter_82 at h
      refine g_iinc C 85 (1 : Int32) 3 [(3, .int (v3 + (1 : Int32))), (0, .ref o), (1, .int v1), (2, .int v2)] dX0_firstWrongLetter_82 rfl rfl 5 hNL (by decide) rfl rfl ?_
      refine g_goto C 6 dX0_firstWrongLetter_85 (by decide) ?_
      refine g_lv (lv' := [(0, .ref o), (1, .int v1), (2, .int v2), (3, .int (v3 + (1 : Int32)))]) [1, 2, 3, 0] rfl ?_
      exact hk_6 _ _ _ h
    intro v1 v2 v3 h
    unfold b_X0_firstWrongLetter_6 at h
    refine g_iload_n C 7 3 dX0_firstWrongLetter_6 rfl rfl ?_
    refine g_aload_n C 8 0 dX0_firstWrongLetter_7 rfl rfl ?_
    refine g_get (v := .int (S.1 0)) C 11 0 0 0 hin_0 rfl rfl (by decide) wf_X0_9 rfl dX0_firstWrongLetter_8 rfl ?_
    refine g_icmp_ge C 88 14 dX0_firstWrongLetter_11 (by decide) rfl (fun c => ?_) (fun c => ?_)
    · have h := ifT c h
      refine g_lv (lv' := [(0, .ref o), (1, .int v1)]) [0, 1] rfl ?_
      exact J_88 _ h
    · have h := ifF c h
      refine g_aload_n C 15 0 dX0_firstWrongLetter_14 rfl rfl ?_
      refine g_get (v := .ref (u 1)) C 18 0 0 1 hin_0 rfl rfl (by decide) wf_X0_15 rfl dX0_firstWrongLetter_15 rfl ?_
      refine g_iload_n C 19 3 dX0_firstWrongLetter_18 rfl rfl ?_
      refine bnd h (fun x1 e1 h => ?_)
      refine g_callNr C 22 [] [.int x1] (ct_X7_at L (u 1) 96 (S.2 1) v3 x1 e1) kX7_at kvX7_at wn_X0_31 [1] rfl rfl rfl rfl rfl (Nat.le_of_ble_eq_true rfl) ⟨Nat.le_of_ble_eq_true rfl, Nat.le_of_ble_eq_true rfl⟩ ⟨Nat.zero_le _, Nat.zero_le _⟩ dX0_firstWrongLetter_19 rfl ?_
      refine g_istore C 24 4 [(4, .int x1), (0, .ref o), (1, .int v1), (2, .int v2), (3, .int v3)] dX0_firstWrongLetter_22 rfl 5 hNL (by decide) rfl ?_
      refine g_iload_n C 25 2 dX0_firstWrongLetter_24 rfl rfl ?_
      refine g_if_eq C 45 28 dX0_firstWrongLetter_25 (by decide) rfl (fun c => ?_) (fun c => ?_)
      · have h := ifT c h
        refine g_iload_n C 46 3 dX0_firstWrongLetter_45 rfl rfl ?_
        refine g_if_le C 71 49 dX0_firstWrongLetter_46 (by decide) rfl (fun c => ?_) (fun c => ?_)
        · have h := ifT c h
          refine g_iload C 73 0 dX0_firstWrongLetter_71 rfl rfl ?_
          refine g_bipush C 75 (59 : Int32) dX0_firstWrongLetter_73 rfl rfl ?_
          refine g_icmp_eq C 80 78 dX0_firstWrongLetter_75 (by decide) rfl (fun c => ?_) (fun c => ?_)
          · have h := ifT c h
            refine g_iconst C 81 (1 : Int32) dX0_firstWrongLetter_80 rfl rfl ?_
            refine g_istore_n C 82 1 [(1, .int (1 : Int32)), (4, .int x1), (0, .ref o), (2, .int v2), (3, .int v3)] dX0_firstWrongLetter_81 rfl rfl 5 hNL (by decide) rfl ?_
            refine g_lv (lv' := [(0, .ref o), (1, .int (1 : Int32)), (2, .int v2), (3, .int v3)]) [2, 0, 3, 4] rfl ?_
            exact J_82 _ _ _ h
          · have h := ifF c h
            refine g_iload_n C 79 4 dX0_firstWrongLetter_78 rfl rfl ?_
            exact g_iret (st := []) C E dX0_firstWrongLetter_79 (by obtain rfl := Option.some.inj h; exact ⟨rfl, rfl⟩)
        · have h := ifF c h
          refine g_iload C 51 0 dX0_firstWrongLetter_49 rfl rfl ?_
          refine g_bipush C 53 (48 : Int32) dX0_firstWrongLetter_51 rfl rfl ?_
          refine g_icmp_lt C 63 56 dX0_firstWrongLetter_53 (by decide) rfl (fun c => ?_) (fun c => ?_)
          · have h := ifT c h
            refine g_iload_n C 64 4 dX0_firstWrongLetter_63 rfl rfl ?_
            exact g_iret (st := []) C E dX0_firstWrongLetter_64 (by obtain rfl := Option.some.inj h; exact ⟨rfl, rfl⟩)
          · have h := ifF c h
            refine g_iload C 58 0 dX0_firstWrongLetter_56 rfl rfl ?_
            refine g_bipush C 60 (57 : Int32) dX0_firstWrongLetter_58 rfl rfl ?_
            refine g_icmp_le C 65 63 dX0_firstWrongLetter_60 (by decide) rfl (fun c => ?_) (fun c => ?_)
            · have h := ifT c h
              refine g_iinc C 68 (-1 : Int32) 3 [(2, .int (v2 + (-1 : Int32))), (4, .int x1), (0, .ref o), (1, .int v1), (3, .int v3)] dX0_firstWrongLetter_65 rfl rfl 5 hNL (by decide) rfl rfl ?_
              refine g_goto C 82 dX0_firstWrongLetter_68 (by decide) ?_
              refine g_lv (lv' := [(0, .ref o), (1, .int v1), (2, .int (v2 + (-1 : Int32))), (3, .int v3)]) [2, 3, 0, 4] rfl ?_
              exact J_82 _ _ _ h
            · have h := ifF c h
              refine g_iload_n C 64 4 dX0_firstWrongLetter_63 rfl rfl ?_
              exact g_iret (st := []) C E dX0_firstWrongLetter_64 (by obtain rfl := Option.some.inj h; exact ⟨rfl, rfl⟩)
      · have h := ifF c h
        refine g_iload C 30 0 dX0_firstWrongLetter_28 rfl rfl ?_
        refine bnd h (fun x2 e2 h => ?_)
        refine g_callSr C 33 [] [.int x2] (ct_X0_digitsBehind L x1 x2 e2) kX0_digitsBehind kvX0_digitsBehind wl_X0_35 [] rfl rfl rfl rfl rfl (Nat.le_of_ble_eq_true rfl) ⟨Nat.le_of_ble_eq_true rfl, Nat.le_of_ble_eq_true rfl⟩ ⟨Nat.zero_le _, Nat.zero_le _⟩ dX0_firstWrongLetter_30 rfl ?_
        refine g_istore_n C 34 2 [(2, .int x2), (4, .int x1), (0, .ref o), (1, .int v1), (3, .int v3)] dX0_firstWrongLetter_33 rfl rfl 5 hNL (by decide) rfl ?_
        refine g_iload_n C 35 0 dX0_firstWrongLetter_34 rfl rfl ?_
        refine g_if_ge C 40 38 dX0_firstWrongLetter_35 (by decide) rfl (fun c => ?_) (fun c => ?_)
        · have h := ifT c h
          refine g_iconst C 41 (0 : Int32) dX0_firstWrongLetter_40 rfl rfl ?_
          refine g_istore_n C 42 1 [(1, .int (0 : Int32)), (2, .int x2), (4, .int x1), (0, .ref o), (3, .int v3)] dX0_firstWrongLetter_41 rfl rfl 5 hNL (by decide) rfl ?_
          refine g_goto C 82 dX0_firstWrongLetter_42 (by decide) ?_
          refine g_lv (lv' := [(0, .ref o), (1, .int (0 : Int32)), (2, .int x2), (3, .int v3)]) [3, 0, 1, 4] rfl ?_
          exact J_82 _ _ _ h
        · have h := ifF c h
          refine g_iload_n C 39 4 dX0_firstWrongLetter_38 rfl rfl ?_
          exact g_iret (st := []) C E dX0_firstWrongLetter_39 (by obtain rfl := Option.some.inj h; exact ⟨rfl, rfl⟩)
  unfold f_X0_firstWrongLetter at h
  refine g_iconst C 1 (1 : Int32) dX0_firstWrongLetter_0 rfl rfl ?_
  refine g_istore_n C 2 1 [(1, .int (1 : Int32)), (0, .ref o)] dX0_firstWrongLetter_1 rfl rfl 5 hNL (by decide) rfl ?_
  refine g_iconst C 3 (0 : Int32) dX0_firstWrongLetter_2 rfl rfl ?_
  refine g_istore_n C 4 2 [(2, .int (0 : Int32)), (1, .int (1 : Int32)), (0, .ref o)] dX0_firstWrongLetter_3 rfl rfl 5 hNL (by decide) rfl ?_
  refine g_iconst C 5 (0 : Int32) dX0_firstWrongLetter_4 rfl rfl ?_
  refine g_istore_n C 6 3 [(3, .int (0 : Int32)), (2, .int (0 : Int32)), (1, .int (1 : Int32)), (0, .ref o)] dX0_firstWrongLetter_5 rfl rfl 5 hNL (by decide) rfl ?_
  refine g_lv (lv' := [(0, .ref o), (1, .int (1 : Int32)), (2, .int (0 : Int32)), (3, .int (0 : Int32))]) [3, 2, 1, 0] rfl ?_
  exact J_6 _ _ _ _ h
set_option maxHeartbeats 4000000 in
set_option maxRecDepth 100000 in
theorem ct_X0_runStatement (L : LL) (o : Nat) (u : Nat → Nat) (t : Nat) (q : Nat → Nat) (S : OS) (T : OS) (v2 : Int32) (x : (Int32 × OS)) (h : f_X0_runStatement S T v2 = some x) : Ct L yX0_runStatement cX0_runStatement 6 (some .int) (rmk 5 0 0 118) 0 0 [.ref o, .ref t, .int v2] (cells0T L o u t q S T) (Pv (some (.int x.1)) (cells0T L o u t q S x.2)) := by
  refine g_enter (lv := [(0, .ref o), (1, .ref t), (2, .int v2)]) kX0_runStatement rfl rfl (Nat.le_of_ble_eq_true rfl) (fun Γ C E hNL => ?_)
  unfold f_X0_runStatement at h
  refine g_aload_n C 1 0 dX0_runStatement_0 rfl rfl ?_
  refine g_get (v := .ref (u 1)) C 4 0 0 1 hin_0 rfl rfl (by decide) wf_X0_15 rfl dX0_runStatement_1 rfl ?_
  refine g_iload_n C 5 2 dX0_runStatement_4 rfl rfl ?_
  refine g_iconst C 6 (1 : Int32) dX0_runStatement_5 rfl rfl ?_
  refine g_iadd C 7 dX0_runStatement_6 rfl ?_
  refine bnd h (fun x1 e1 h => ?_)
  refine g_callNr C 10 [] [.int x1] (ct_X7_at L (u 1) 96 (S.2 1) (v2 + (1 : Int32)) x1 e1) kX7_at kvX7_at wn_X0_31 [1] rfl rfl rfl rfl rfl (Nat.le_of_ble_eq_true rfl) ⟨Nat.le_of_ble_eq_true rfl, Nat.le_of_ble_eq_true rfl⟩ ⟨Nat.zero_le _, Nat.zero_le _⟩ dX0_runStatement_7 rfl ?_
  refine g_bipush C 12 (48 : Int32) dX0_runStatement_10 rfl rfl ?_
  refine g_isub C 13 dX0_runStatement_12 rfl ?_
  refine g_istore_n C 14 3 [(3, .int (x1 - (48 : Int32))), (0, .ref o), (1, .ref t), (2, .int v2)] dX0_runStatement_13 rfl rfl 6 hNL (by decide) rfl ?_
  refine g_aload_n C 15 1 dX0_runStatement_14 rfl rfl ?_
  refine g_get (v := .ref (u 1)) C 18 0 0 1 hin_0 rfl rfl (by decide) wf_X0_15 rfl dX0_runStatement_15 rfl ?_
  refine g_iload_n C 19 3 dX0_runStatement_18 rfl rfl ?_
  refine g_iconst C 20 (2 : Int32) dX0_runStatement_19 rfl rfl ?_
  refine g_iadd C 21 dX0_runStatement_20 rfl ?_
  refine bnd h (fun x2 e2 h => ?_)
  refine g_callNr C 24 [] [.int x2] (ct_X7_at L (u 1) 96 (S.2 1) (v2 + (2 : Int32)) x2 e2) kX7_at kvX7_at wn_X0_31 [1] rfl rfl rfl rfl rfl (Nat.le_of_ble_eq_true rfl) ⟨Nat.le_of_ble_eq_true rfl, Nat.le_of_ble_eq_true rfl⟩ ⟨Nat.zero_le _, Nat.zero_le _⟩ dX0_runStatement_21 rfl ?_
  refine g_bipush C 26 (48 : Int32) dX0_runStatement_24 rfl rfl ?_
  refine g_isub C 27 dX0_runStatement_26 rfl ?_
  refine g_istore C 29 4 [(4, .int (x2 - (48 : Int32))), (3, .int (x1 - (48 : Int32))), (0, .ref o), (1, .ref t), (2, .int v2)] dX0_runStatement_27 rfl 6 hNL (by decide) rfl ?_
  refine g_aload_n C 30 2 dX0_runStatement_29 rfl rfl ?_
  refine g_get (v := .ref (u 1)) C 33 0 0 1 hin_0 rfl rfl (by decide) wf_X0_15 rfl dX0_runStatement_30 rfl ?_
  refine g_iload_n C 34 4 dX0_runStatement_33 rfl rfl ?_
  refine g_iconst C 35 (3 : Int32) dX0_runStatement_34 rfl rfl ?_
  refine g_iadd C 36 dX0_runStatement_35 rfl ?_
  refine bnd h (fun x3 e3 h => ?_)
  refine g_callNr C 39 [] [.int x3] (ct_X7_at L (u 1) 96 (S.2 1) (v2 + (3 : Int32)) x3 e3) kX7_at kvX7_at wn_X0_31 [1] rfl rfl rfl rfl rfl (Nat.le_of_ble_eq_true rfl) ⟨Nat.le_of_ble_eq_true rfl, Nat.le_of_ble_eq_true rfl⟩ ⟨Nat.zero_le _, Nat.zero_le _⟩ dX0_runStatement_36 rfl ?_
  refine g_bipush C 41 (48 : Int32) dX0_runStatement_39 rfl rfl ?_
  refine g_isub C 42 dX0_runStatement_41 rfl ?_
  refine g_istore C 44 5 [(5, .int (x3 - (48 : Int32))), (4, .int (x2 - (48 : Int32))), (3, .int (x1 - (48 : Int32))), (0, .ref o), (1, .ref t), (2, .int v2)] dX0_runStatement_42 rfl 6 hNL (by decide) rfl ?_
  refine g_aload_n C 45 3 dX0_runStatement_44 rfl rfl ?_
  refine g_get (v := .ref (u 1)) C 48 0 0 1 hin_0 rfl rfl (by decide) wf_X0_15 rfl dX0_runStatement_45 rfl ?_
  refine g_iload_n C 49 5 dX0_runStatement_48 rfl rfl ?_
  refine bnd h (fun x4 e4 h => ?_)
  refine g_callNr C 52 [] [.int x4] (ct_X7_at L (u 1) 96 (S.2 1) v2 x4 e4) kX7_at kvX7_at wn_X0_31 [1] rfl rfl rfl rfl rfl (Nat.le_of_ble_eq_true rfl) ⟨Nat.le_of_ble_eq_true rfl, Nat.le_of_ble_eq_true rfl⟩ ⟨Nat.zero_le _, Nat.zero_le _⟩ dX0_runStatement_49 rfl ?_
  by_cases c100 : x4 = (100 : Int32)
  · have h := ifT c100 h
    refine g_tabIn C 224 (172) dX0_runStatement_52 (by rw [c100]; decide) (by rw [c100]; decide) (by rw [c100]; rfl) (by decide) ?_
    refine g_aload_n C 225 4 dX0_runStatement_224 rfl rfl ?_
    refine bnd h (fun x5 e5 h => ?_)
    refine g_callVw (w' := (cells0T L o u t q S x5.2)) C 228 [] [.int x5.1] (ct_X6_nextDay L t q T x5 e5) kX6_nextDay kvX6_nextDay wl_X0_61 6 0 rfl rfl rfl [2, 3, 4, 5, 6, 7, 8] rfl rfl rfl rfl rfl rfl rfl (Nat.le_of_ble_eq_true rfl) ⟨Nat.le_of_ble_eq_true rfl, Nat.le_of_ble_eq_true rfl⟩ ⟨Nat.zero_le _, Nat.zero_le _⟩ dX0_runStatement_225 rfl ?_
    exact g_iret (st := []) C E dX0_runStatement_228 (by obtain rfl := Option.some.inj h; exact ⟨rfl, rfl⟩)
  have h := ifF c100 h
  by_cases c104 : x4 = (104 : Int32)
  · have h := ifT c104 h
    refine g_tabIn C 190 (138) dX0_runStatement_52 (by rw [c104]; decide) (by rw [c104]; decide) (by rw [c104]; rfl) (by decide) ?_
    refine g_aload_n C 191 4 dX0_runStatement_190 rfl rfl ?_
    refine g_iconst C 192 (0 : Int32) dX0_runStatement_191 rfl rfl ?_
    refine g_bipush C 194 (10 : Int32) dX0_runStatement_192 rfl rfl ?_
    refine g_iload_n C 195 2 dX0_runStatement_194 rfl rfl ?_
    refine g_imul C 196 dX0_runStatement_195 rfl ?_
    refine g_iload C 198 1 dX0_runStatement_196 rfl rfl ?_
    refine g_iadd C 199 dX0_runStatement_198 rfl ?_
    refine bnd h (fun x6 e6 h => ?_)
    refine g_callVw (w' := (cells0T L o u t q S x6.2)) C 202 [] [.int x6.1] (ct_X6_change L t q T (0 : Int32) (((10 : Int32) * (x1 - (48 : Int32))) + (x2 - (48 : Int32))) x6 e6) kX6_change kvX6_change wl_X0_55 6 0 rfl rfl rfl [2, 3, 4, 5, 6, 7, 8] rfl rfl rfl rfl rfl rfl rfl (Nat.le_of_ble_eq_true rfl) ⟨Nat.le_of_ble_eq_true rfl, Nat.le_of_ble_eq_true rfl⟩ ⟨Nat.zero_le _, Nat.zero_le _⟩ dX0_runStatement_199 rfl ?_
    exact g_iret (st := []) C E dX0_runStatement_202 (by obtain rfl := Option.some.inj h; exact ⟨rfl, rfl⟩)
  have h := ifF c104 h
  by_cases c107 : x4 = (107 : Int32)
  · have h := ifT c107 h
    refine g_tabIn C 182 (130) dX0_runStatement_52 (by rw [c107]; decide) (by rw [c107]; decide) (by rw [c107]; rfl) (by decide) ?_
    refine g_aload_n C 183 4 dX0_runStatement_182 rfl rfl ?_
    refine g_iload_n C 184 2 dX0_runStatement_183 rfl rfl ?_
    refine g_iload C 186 1 dX0_runStatement_184 rfl rfl ?_
    refine bnd h (fun x7 e7 h => ?_)
    refine g_callVw (w' := (cells0T L o u t q S x7.2)) C 189 [] [.int x7.1] (ct_X6_turnKnown L t q T (x1 - (48 : Int32)) (x2 - (48 : Int32)) x7 e7) kX6_turnKnown kvX6_turnKnown wl_X0_51 6 0 rfl rfl rfl [2, 3, 4, 5, 6, 7, 8] rfl rfl rfl rfl rfl rfl rfl (Nat.le_of_ble_eq_true rfl) ⟨Nat.le_of_ble_eq_true rfl, Nat.le_of_ble_eq_true rfl⟩ ⟨Nat.zero_le _, Nat.zero_le _⟩ dX0_runStatement_186 rfl ?_
    exact g_iret (st := []) C E dX0_runStatement_189 (by obtain rfl := Option.some.inj h; exact ⟨rfl, rfl⟩)
  have h := ifF c107 h
  by_cases c108 : x4 = (108 : Int32)
  · have h := ifT c108 h
    refine g_tabIn C 176 (124) dX0_runStatement_52 (by rw [c108]; decide) (by rw [c108]; decide) (by rw [c108]; rfl) (by decide) ?_
    refine g_aload_n C 177 4 dX0_runStatement_176 rfl rfl ?_
    refine g_iload_n C 178 2 dX0_runStatement_177 rfl rfl ?_
    refine bnd h (fun x8 e8 h => ?_)
    refine g_callVw (w' := (cells0T L o u t q S x8.2)) C 181 [] [.int x8.1] (ct_X6_addLearner L t q T (x1 - (48 : Int32)) x8 e8) kX6_addLearner kvX6_addLearner wl_X0_48 6 0 rfl rfl rfl [2, 3, 4, 5, 6, 7, 8] rfl rfl rfl rfl rfl rfl rfl (Nat.le_of_ble_eq_true rfl) ⟨Nat.le_of_ble_eq_true rfl, Nat.le_of_ble_eq_true rfl⟩ ⟨Nat.zero_le _, Nat.zero_le _⟩ dX0_runStatement_178 rfl ?_
    exact g_iret (st := []) C E dX0_runStatement_181 (by obtain rfl := Option.some.inj h; exact ⟨rfl, rfl⟩)
  have h := ifF c108 h
  by_cases c109 : x4 = (109 : Int32)
  · have h := ifT c109 h
    refine g_tabIn C 211 (159) dX0_runStatement_52 (by rw [c109]; decide) (by rw [c109]; decide) (by rw [c109]; rfl) (by decide) ?_
    refine g_aload_n C 212 4 dX0_runStatement_211 rfl rfl ?_
    refine g_iconst C 213 (1 : Int32) dX0_runStatement_212 rfl rfl ?_
    refine g_bipush C 215 (10 : Int32) dX0_runStatement_213 rfl rfl ?_
    refine g_iload_n C 216 2 dX0_runStatement_215 rfl rfl ?_
    refine g_imul C 217 dX0_runStatement_216 rfl ?_
    refine g_iload C 219 1 dX0_runStatement_217 rfl rfl ?_
    refine g_iadd C 220 dX0_runStatement_219 rfl ?_
    refine bnd h (fun x9 e9 h => ?_)
    refine g_callVw (w' := (cells0T L o u t q S x9.2)) C 223 [] [.int x9.1] (ct_X6_change L t q T (1 : Int32) (((10 : Int32) * (x1 - (48 : Int32))) + (x2 - (48 : Int32))) x9 e9) kX6_change kvX6_change wl_X0_55 6 0 rfl rfl rfl [2, 3, 4, 5, 6, 7, 8] rfl rfl rfl rfl rfl rfl rfl (Nat.le_of_ble_eq_true rfl) ⟨Nat.le_of_ble_eq_true rfl, Nat.le_of_ble_eq_true rfl⟩ ⟨Nat.zero_le _, Nat.zero_le _⟩ dX0_runStatement_220 rfl ?_
    exact g_iret (st := []) C E dX0_runStatement_223 (by obtain rfl := Option.some.inj h; exact ⟨rfl, rfl⟩)
  have h := ifF c109 h
  by_cases c115 : x4 = (115 : Int32)
  · have h := ifT c115 h
    refine g_tabIn C 148 (96) dX0_runStatement_52 (by rw [c115]; decide) (by rw [c115]; decide) (by rw [c115]; rfl) (by decide) ?_
    refine g_aload_n C 149 4 dX0_runStatement_148 rfl rfl ?_
    refine g_iload_n C 150 2 dX0_runStatement_149 rfl rfl ?_
    refine g_iload C 152 1 dX0_runStatement_150 rfl rfl ?_
    refine g_iload C 154 0 dX0_runStatement_152 rfl rfl ?_
    refine bnd h (fun x10 e10 h => ?_)
    refine g_callVw (w' := (cells0T L o u t q S x10.2)) C 157 [] [.int x10.1] (ct_X6_addStreet L t q T (x1 - (48 : Int32)) (x2 - (48 : Int32)) (x3 - (48 : Int32)) x10 e10) kX6_addStreet kvX6_addStreet wl_X0_39 6 0 rfl rfl rfl [2, 3, 4, 5, 6, 7, 8] rfl rfl rfl rfl rfl rfl rfl (Nat.le_of_ble_eq_true rfl) ⟨Nat.le_of_ble_eq_true rfl, Nat.le_of_ble_eq_true rfl⟩ ⟨Nat.zero_le _, Nat.zero_le _⟩ dX0_runStatement_154 rfl ?_
    exact g_iret (st := []) C E dX0_runStatement_157 (by obtain rfl := Option.some.inj h; exact ⟨rfl, rfl⟩)
  have h := ifF c115 h
  by_cases c116 : x4 = (116 : Int32)
  · have h := ifT c116 h
    refine g_tabIn C 203 (151) dX0_runStatement_52 (by rw [c116]; decide) (by rw [c116]; decide) (by rw [c116]; rfl) (by decide) ?_
    refine g_aload_n C 204 4 dX0_runStatement_203 rfl rfl ?_
    refine g_iload_n C 205 2 dX0_runStatement_204 rfl rfl ?_
    refine g_iload C 207 1 dX0_runStatement_205 rfl rfl ?_
    refine bnd h (fun x11 e11 h => ?_)
    refine g_callVw (w' := (cells0T L o u t q S x11.2)) C 210 [] [.int x11.1] (ct_X6_test L t q T (x1 - (48 : Int32)) (x2 - (48 : Int32)) x11 e11) kX6_test kvX6_test wl_X0_58 6 0 rfl rfl rfl [2, 3, 4, 5, 6, 7, 8] rfl rfl rfl rfl rfl rfl rfl (Nat.le_of_ble_eq_true rfl) ⟨Nat.le_of_ble_eq_true rfl, Nat.le_of_ble_eq_true rfl⟩ ⟨Nat.zero_le _, Nat.zero_le _⟩ dX0_runStatement_207 rfl ?_
    exact g_iret (st := []) C E dX0_runStatement_210 (by obtain rfl := Option.some.inj h; exact ⟨rfl, rfl⟩)
  have h := ifF c116 h
  by_cases c119 : x4 = (119 : Int32)
  · have h := ifT c119 h
    refine g_tabIn C 158 (106) dX0_runStatement_52 (by rw [c119]; decide) (by rw [c119]; decide) (by rw [c119]; rfl) (by decide) ?_
    refine g_aload_n C 159 4 dX0_runStatement_158 rfl rfl ?_
    refine g_bipush C 161 (100 : Int32) dX0_runStatement_159 rfl rfl ?_
    refine g_iload_n C 162 2 dX0_runStatement_161 rfl rfl ?_
    refine g_imul C 163 dX0_runStatement_162 rfl ?_
    refine g_bipush C 165 (10 : Int32) dX0_runStatement_163 rfl rfl ?_
    refine g_iload C 167 1 dX0_runStatement_165 rfl rfl ?_
    refine g_imul C 168 dX0_runStatement_167 rfl ?_
    refine g_iadd C 169 dX0_runStatement_168 rfl ?_
    refine g_iload C 171 0 dX0_runStatement_169 rfl rfl ?_
    refine g_iadd C 172 dX0_runStatement_171 rfl ?_
    refine bnd h (fun x12 e12 h => ?_)
    refine g_callVw (w' := (cells0T L o u t q S x12.2)) C 175 [] [.int x12.1] (ct_X6_addWay L t q T ((((100 : Int32) * (x1 - (48 : Int32))) + ((10 : Int32) * (x2 - (48 : Int32)))) + (x3 - (48 : Int32))) x12 e12) kX6_addWay kvX6_addWay wl_X0_45 6 0 rfl rfl rfl [2, 3, 4, 5, 6, 7, 8] rfl rfl rfl rfl rfl rfl rfl (Nat.le_of_ble_eq_true rfl) ⟨Nat.le_of_ble_eq_true rfl, Nat.le_of_ble_eq_true rfl⟩ ⟨Nat.zero_le _, Nat.zero_le _⟩ dX0_runStatement_172 rfl ?_
    exact g_iret (st := []) C E dX0_runStatement_175 (by obtain rfl := Option.some.inj h; exact ⟨rfl, rfl⟩)
  have h := ifF c119 h
  have t100 := ne_toInt c100 (show ((100 : Int32) : Int32).toInt = 100 by decide +kernel)
  have t104 := ne_toInt c104 (show ((104 : Int32) : Int32).toInt = 104 by decide +kernel)
  have t107 := ne_toInt c107 (show ((107 : Int32) : Int32).toInt = 107 by decide +kernel)
  have t108 := ne_toInt c108 (show ((108 : Int32) : Int32).toInt = 108 by decide +kernel)
  have t109 := ne_toInt c109 (show ((109 : Int32) : Int32).toInt = 109 by decide +kernel)
  have t115 := ne_toInt c115 (show ((115 : Int32) : Int32).toInt = 115 by decide +kernel)
  have t116 := ne_toInt c116 (show ((116 : Int32) : Int32).toInt = 116 by decide +kernel)
  have t119 := ne_toInt c119 (show ((119 : Int32) : Int32).toInt = 119 by decide +kernel)
  by_cases cr : (x4).toInt < 100 ∨ 119 < (x4).toInt
  · refine g_tabOut C 229 dX0_runStatement_52 cr (by decide) ?_
    refine g_bipush C 231 (-2 : Int32) dX0_runStatement_229 rfl rfl ?_
    exact g_iret (st := []) C E dX0_runStatement_231 (by obtain rfl := Option.some.inj h; exact ⟨rfl, rfl⟩)
  · have cx : (x4).toInt = 101 ∨ (x4).toInt = 102 ∨ (x4).toInt = 103 ∨ (x4).toInt = 105 ∨ (x4).toInt = 106 ∨ (x4).toInt = 110 ∨ (x4).toInt = 111 ∨ (x4).toInt = 112 ∨ (x4).toInt = 113 ∨ (x4).toInt = 114 ∨ (x4).toInt = 117 ∨ (x4).toInt = 118 := by omega
    refine g_tabIn C 229 (177) dX0_runStatement_52 (by omega) (by omega) (by rcases cx with cx | cx | cx | cx | cx | cx | cx | cx | cx | cx | cx | cx <;> (rw [cx]; rfl)) (by decide) ?_
    refine g_bipush C 231 (-2 : Int32) dX0_runStatement_229 rfl rfl ?_
    exact g_iret (st := []) C E dX0_runStatement_231 (by obtain rfl := Option.some.inj h; exact ⟨rfl, rfl⟩)
set_option maxHeartbeats 4000000 in
set_option maxRecDepth 100000 in
theorem ct_X0_runOn (L : LL) (o : Nat) (u : Nat → Nat) (t : Nat) (q : Nat → Nat) (S : OS) (T : OS) (x : (Int32 × OS)) (h : f_X0_runOn S T = some x) : Ct L yX0_runOn cX0_runOn 6 (some .int) (rmk 6 0 0 143) 0 0 [.ref o, .ref t] (cells0T L o u t q S T) (Pv (some (.int x.1)) (cells0T L o u t q S x.2)) := by
  refine g_enter (lv := [(0, .ref o), (1, .ref t)]) kX0_runOn rfl rfl (Nat.le_of_ble_eq_true rfl) (fun Γ C E hNL => ?_)
  have J_24 : ∀ (n : Nat)  (v3 : Int32) (v4 : Int32) (v5 : Int32) (T : OS), Lp4 (b_X0_runOn_24 S  ) n v3 v4 v5 T = some x → G L Γ 0 0 (cells0T L o u t q S T) 24 [(0, .ref o), (1, .ref t), (3, .int v3), (4, .int v4), (5, .int v5)] [] := by
    intro n 
    refine lp_ok4 (fun v3 v4 v5 T => G L Γ 0 0 (cells0T L o u t q S T) 24 [(0, .ref o), (1, .ref t), (3, .int v3), (4, .int v4), (5, .int v5)] []) (fun k_24 hk_24 => ?_) n
    intro v3 v4 v5 T h
    unfold b_X0_runOn_24 at h
    refine g_iload C 26 4 dX0_runOn_24 rfl rfl ?_
    refine g_bipush C 28 (96 : Int32) dX0_runOn_26 rfl rfl ?_
    refine g_icmp_ge C 85 31 dX0_runOn_28 (by decide) rfl (fun c => ?_) (fun c => ?_)
    · have h := ifT c h
      refine g_iload_n C 86 2 dX0_runOn_85 rfl rfl ?_
      exact g_iret (st := []) C E dX0_runOn_86 (by obtain rfl := Option.some.inj h; exact ⟨rfl, rfl⟩)
    · have h := ifF c h
      refine g_iload C 33 3 dX0_runOn_31 rfl rfl ?_
      refine g_aload_n C 34 0 dX0_runOn_33 rfl rfl ?_
      refine g_get (v := .int (S.1 0)) C 37 0 0 0 hin_0 rfl rfl (by decide) wf_X0_9 rfl dX0_runOn_34 rfl ?_
      refine g_icmp_ge C 85 40 dX0_runOn_37 (by decide) rfl (fun c => ?_) (fun c => ?_)
      · have h := ifT c h
        refine g_iload_n C 86 2 dX0_runOn_85 rfl rfl ?_
        exact g_iret (st := []) C E dX0_runOn_86 (by obtain rfl := Option.some.inj h; exact ⟨rfl, rfl⟩)
      · have h := ifF c h
        refine g_aload_n C 41 0 dX0_runOn_40 rfl rfl ?_
        refine g_aload_n C 42 1 dX0_runOn_41 rfl rfl ?_
        refine g_iload C 44 3 dX0_runOn_42 rfl rfl ?_
        refine bnd h (fun x2 e2 h => ?_)
        refine g_callVw (w' := (cells0T L o u t q S x2.2)) C 47 [] [.int x2.1] (ct_X0_runStatement L o u t q S T v4 x2 e2) kX0_runStatement kvX0_runStatement wl_X0_27 0 0 rfl rfl rfl [0, 1, 2, 3, 4, 5, 6, 7, 8] rfl rfl rfl rfl rfl rfl rfl (Nat.le_of_ble_eq_true rfl) ⟨Nat.le_of_ble_eq_true rfl, Nat.le_of_ble_eq_true rfl⟩ ⟨Nat.zero_le _, Nat.zero_le _⟩ dX0_runOn_44 rfl ?_
        refine g_if_ge C 57 50 dX0_runOn_47 (by decide) rfl (fun c => ?_) (fun c => ?_)
        · have h := ifT c h
          refine g_iinc C 60 (1 : Int32) 2 [(3, .int (v3 + (1 : Int32))), (0, .ref o), (1, .ref t), (4, .int v4), (5, .int v5)] dX0_runOn_57 rfl rfl 6 hNL (by decide) rfl rfl ?_
          refine g_iload C 62 3 dX0_runOn_60 rfl rfl ?_
          refine g_aload_n C 63 1 dX0_runOn_62 rfl rfl ?_
          refine g_get (v := .ref (u 1)) C 66 0 0 1 hin_0 rfl rfl (by decide) wf_X0_15 rfl dX0_runOn_63 rfl ?_
          refine g_iload C 68 3 dX0_runOn_66 rfl rfl ?_
          refine bnd h (fun x3 e3 h => ?_)
          refine g_callNr C 71 [.int v4] [.int x3, .int v4] (ct_X7_at L (u 1) 96 (S.2 1) v4 x3 e3) kX7_at kvX7_at wn_X0_31 [1] rfl rfl rfl rfl rfl (Nat.le_of_ble_eq_true rfl) ⟨Nat.le_of_ble_eq_true rfl, Nat.le_of_ble_eq_true rfl⟩ ⟨Nat.zero_le _, Nat.zero_le _⟩ dX0_runOn_68 rfl ?_
          refine bnd h (fun x4 e4 h => ?_)
          refine g_callSr C 74 [.int v4] [.int x4, .int v4] (ct_X0_digitsBehind L x3 x4 e4) kX0_digitsBehind kvX0_digitsBehind wl_X0_35 [] rfl rfl rfl rfl rfl (Nat.le_of_ble_eq_true rfl) ⟨Nat.le_of_ble_eq_true rfl, Nat.le_of_ble_eq_true rfl⟩ ⟨Nat.zero_le _, Nat.zero_le _⟩ dX0_runOn_71 rfl ?_
          refine g_iconst C 75 (2 : Int32) dX0_runOn_74 rfl rfl ?_
          refine g_iadd C 76 dX0_runOn_75 rfl ?_
          refine g_iadd C 77 dX0_runOn_76 rfl ?_
          refine g_istore C 79 4 [(4, .int (v4 + (x4 + (2 : Int32)))), (3, .int (v3 + (1 : Int32))), (0, .ref o), (1, .ref t), (5, .int v5)] dX0_runOn_77 rfl 6 hNL (by decide) rfl ?_
          refine g_iinc C 82 (1 : Int32) 4 [(5, .int (v5 + (1 : Int32))), (4, .int (v4 + (x4 + (2 : Int32)))), (3, .int (v3 + (1 : Int32))), (0, .ref o), (1, .ref t)] dX0_runOn_79 rfl rfl 6 hNL (by decide) rfl rfl ?_
          refine g_goto C 24 dX0_runOn_82 (by decide) ?_
          refine g_lv (lv' := [(0, .ref o), (1, .ref t), (3, .int (v3 + (1 : Int32))), (4, .int (v4 + (x4 + (2 : Int32)))), (5, .int (v5 + (1 : Int32)))]) [3, 4, 2, 1, 0] rfl ?_
          exact hk_24 _ _ _ _ h
        · have h := ifF c h
          refine g_sipush C 53 (-2000 : Int32) dX0_runOn_50 rfl rfl ?_
          refine g_iload C 55 3 dX0_runOn_53 rfl rfl ?_
          refine g_isub C 56 dX0_runOn_55 rfl ?_
          exact g_iret (st := []) C E dX0_runOn_56 (by obtain rfl := Option.some.inj h; exact ⟨rfl, rfl⟩)
  unfold f_X0_runOn at h
  refine g_aload_n C 1 0 dX0_runOn_0 rfl rfl ?_
  refine bnd h (fun x1 e1 h => ?_)
  refine g_callVr C 4 [] [.int x1] (ct_X0_firstWrongLetter L o u S x1 e1) kX0_firstWrongLetter kvX0_firstWrongLetter wl_X0_23 0 0 rfl rfl rfl [0, 1] rfl rfl rfl rfl rfl (Nat.le_of_ble_eq_true rfl) ⟨Nat.le_of_ble_eq_true rfl, Nat.le_of_ble_eq_true rfl⟩ ⟨Nat.zero_le _, Nat.zero_le _⟩ dX0_runOn_1 rfl ?_
  refine g_istore_n C 5 2 [(2, .int x1), (0, .ref o), (1, .ref t)] dX0_runOn_4 rfl rfl 6 hNL (by decide) rfl ?_
  refine g_iload_n C 6 0 dX0_runOn_5 rfl rfl ?_
  refine g_iconst C 7 (-1 : Int32) dX0_runOn_6 rfl rfl ?_
  refine g_icmp_eq C 16 10 dX0_runOn_7 (by decide) rfl (fun c => ?_) (fun c => ?_)
  · have h := ifT c h
    refine g_iconst C 17 (0 : Int32) dX0_runOn_16 rfl rfl ?_
    refine g_istore_n C 18 3 [(3, .int (0 : Int32)), (2, .int x1), (0, .ref o), (1, .ref t)] dX0_runOn_17 rfl rfl 6 hNL (by decide) rfl ?_
    refine g_iconst C 19 (0 : Int32) dX0_runOn_18 rfl rfl ?_
    refine g_istore C 21 4 [(4, .int (0 : Int32)), (3, .int (0 : Int32)), (2, .int x1), (0, .ref o), (1, .ref t)] dX0_runOn_19 rfl 6 hNL (by decide) rfl ?_
    refine g_iconst C 22 (0 : Int32) dX0_runOn_21 rfl rfl ?_
    refine g_istore C 24 5 [(5, .int (0 : Int32)), (4, .int (0 : Int32)), (3, .int (0 : Int32)), (2, .int x1), (0, .ref o), (1, .ref t)] dX0_runOn_22 rfl 6 hNL (by decide) rfl ?_
    refine g_lv (lv' := [(0, .ref o), (1, .ref t), (3, .int (0 : Int32)), (4, .int (0 : Int32)), (5, .int (0 : Int32))]) [4, 5, 2, 1, 0] rfl ?_
    exact J_24 _ _ _ _ _ h
  · have h := ifF c h
    refine g_sipush C 13 (-1000 : Int32) dX0_runOn_10 rfl rfl ?_
    refine g_iload_n C 14 0 dX0_runOn_13 rfl rfl ?_
    refine g_isub C 15 dX0_runOn_14 rfl ?_
    exact g_iret (st := []) C E dX0_runOn_15 (by obtain rfl := Option.some.inj h; exact ⟨rfl, rfl⟩)
set_option maxHeartbeats 4000000 in
set_option maxRecDepth 100000 in
theorem ct_X4_hold (L : LL) (o : Nat) (u : Nat → Nat) (t : Nat) (q : Nat → Nat) (S : OS) (T : OS) (x : OS) (h : f_X4_hold S T = some x) : Ct L yX4_hold cX4_hold 4 none (rmk 1 0 0 22) 0 0 [.ref o, .ref t] (cells4T L o u t q S T) (Pv none (cells4T L o u t q x T)) := by
  refine g_enter (lv := [(0, .ref o), (1, .ref t)]) kX4_hold rfl rfl (Nat.le_of_ble_eq_true rfl) (fun Γ C E hNL => ?_)
  have J_50 : ∀ (n : Nat) (v2 : Int32) (v3 : Int32) (S : OS), Lp2 (b_X4_hold_50 T  v2) n v3 S = some x → G L Γ 0 0 (cells4T L o u t q S T) 50 [(0, .ref o), (1, .ref t), (2, .int v2), (3, .int v3)] [] := by
    intro n v2
    refine lp_ok2 (fun v3 S => G L Γ 0 0 (cells4T L o u t q S T) 50 [(0, .ref o), (1, .ref t), (2, .int v2), (3, .int v3)] []) (fun k_50 hk_50 => ?_) n
    intro v3 S h
    unfold b_X4_hold_50 at h
    refine g_iload_n C 51 3 dX4_hold_50 rfl rfl ?_
    refine g_iconst C 52 (5 : Int32) dX4_hold_51 rfl rfl ?_
    refine g_icmp_ge C 81 55 dX4_hold_52 (by decide) rfl (fun c => ?_) (fun c => ?_)
    · have h := ifT c h
      exact g_vret (st := []) C E dX4_hold_81 (by obtain rfl := Option.some.inj h; exact ⟨rfl, rfl⟩)
    · have h := ifF c h
      refine g_aload_n C 56 0 dX4_hold_55 rfl rfl ?_
      refine g_get (v := .ref (u 2)) C 59 4 0 2 hin_4 rfl rfl (by decide) wf_X4_18 rfl dX4_hold_56 rfl ?_
      refine g_iload_n C 60 2 dX4_hold_59 rfl rfl ?_
      refine g_iconst C 61 (3 : Int32) dX4_hold_60 rfl rfl ?_
      refine g_iadd C 62 dX4_hold_61 rfl ?_
      refine g_iload_n C 63 3 dX4_hold_62 rfl rfl ?_
      refine g_iadd C 64 dX4_hold_63 rfl ?_
      refine g_aload_n C 65 1 dX4_hold_64 rfl rfl ?_
      refine g_get (v := .ref (q 11)) C 68 6 2 11 hin_6 rfl rfl (by decide) wf_X4_37 rfl dX4_hold_65 rfl ?_
      refine g_iload_n C 69 3 dX4_hold_68 rfl rfl ?_
      refine bnd h (fun x4 e4 h => ?_)
      refine g_callNr C 72 [.int ((v2 + (3 : Int32)) + v3), .ref (u 2)] [.int x4, .int ((v2 + (3 : Int32)) + v3), .ref (u 2)] (ct_X7_at L (q 11) 5 (T.2 11) v3 x4 e4) kX7_at kvX7_at wn_X4_40 [8] rfl rfl rfl rfl rfl (Nat.le_of_ble_eq_true rfl) ⟨Nat.le_of_ble_eq_true rfl, Nat.le_of_ble_eq_true rfl⟩ ⟨Nat.zero_le _, Nat.zero_le _⟩ dX4_hold_69 rfl ?_
      refine bnd h (fun x5 e5 h => ?_)
      refine g_callNw (w' := (cells4T L o u t q (sa S 2 x5) T)) C 75 [] [] (ct_X7_store L (u 2) 72 (S.2 2) ((v2 + (3 : Int32)) + v3) x4 x5 e5) kX7_store kvX7_store wn_X4_27 [1] rfl rfl rfl rfl rfl rfl rfl (Nat.le_of_ble_eq_true rfl) ⟨Nat.le_of_ble_eq_true rfl, Nat.le_of_ble_eq_true rfl⟩ ⟨Nat.zero_le _, Nat.zero_le _⟩ dX4_hold_72 rfl ?_
      refine g_iinc C 78 (1 : Int32) 3 [(3, .int (v3 + (1 : Int32))), (0, .ref o), (1, .ref t), (2, .int v2)] dX4_hold_75 rfl rfl 4 hNL (by decide) rfl rfl ?_
      refine g_goto C 50 dX4_hold_78 (by decide) ?_
      refine g_lv (lv' := [(0, .ref o), (1, .ref t), (2, .int v2), (3, .int (v3 + (1 : Int32)))]) [1, 2, 3, 0] rfl ?_
      exact hk_50 _ _ h
  unfold f_X4_hold at h
  refine g_aload_n C 1 0 dX4_hold_0 rfl rfl ?_
  refine g_get (v := .int (S.1 1)) C 4 4 0 1 hin_4 rfl rfl (by decide) wf_X4_15 rfl dX4_hold_1 rfl ?_
  refine g_bipush C 6 (8 : Int32) dX4_hold_4 rfl rfl ?_
  refine g_imul C 7 dX4_hold_6 rfl ?_
  refine g_istore_n C 8 2 [(2, .int ((S.1 1) * (8 : Int32))), (0, .ref o), (1, .ref t)] dX4_hold_7 rfl rfl 4 hNL (by decide) rfl ?_
  refine g_aload_n C 9 1 dX4_hold_8 rfl rfl ?_
  refine g_get (v := .ref (u 2)) C 12 4 0 2 hin_4 rfl rfl (by decide) wf_X4_18 rfl dX4_hold_9 rfl ?_
  refine g_iload_n C 13 0 dX4_hold_12 rfl rfl ?_
  refine g_aload_n C 14 2 dX4_hold_13 rfl rfl ?_
  refine g_get (v := .int (T.1 3)) C 17 6 2 3 hin_6 rfl rfl (by decide) wf_X4_22 rfl dX4_hold_14 rfl ?_
  refine bnd h (fun x1 e1 h => ?_)
  refine g_callNw (w' := (cells4T L o u t q (sa S 2 x1) T)) C 20 [] [] (ct_X7_store L (u 2) 72 (S.2 2) ((S.1 1) * (8 : Int32)) (T.1 3) x1 e1) kX7_store kvX7_store wn_X4_27 [1] rfl rfl rfl rfl rfl rfl rfl (Nat.le_of_ble_eq_true rfl) ⟨Nat.le_of_ble_eq_true rfl, Nat.le_of_ble_eq_true rfl⟩ ⟨Nat.zero_le _, Nat.zero_le _⟩ dX4_hold_17 rfl ?_
  refine g_aload_n C 21 1 dX4_hold_20 rfl rfl ?_
  refine g_get (v := .ref (u 2)) C 24 4 0 2 hin_4 rfl rfl (by decide) wf_X4_18 rfl dX4_hold_21 rfl ?_
  refine g_iload_n C 25 0 dX4_hold_24 rfl rfl ?_
  refine g_iconst C 26 (1 : Int32) dX4_hold_25 rfl rfl ?_
  refine g_iadd C 27 dX4_hold_26 rfl ?_
  refine g_aload_n C 28 2 dX4_hold_27 rfl rfl ?_
  refine g_get (v := .int (T.1 4)) C 31 6 2 4 hin_6 rfl rfl (by decide) wf_X4_31 rfl dX4_hold_28 rfl ?_
  refine bnd h (fun x2 e2 h => ?_)
  refine g_callNw (w' := (cells4T L o u t q (sa (sa S 2 x1) 2 x2) T)) C 34 [] [] (ct_X7_store L (u 2) 72 x1 (((S.1 1) * (8 : Int32)) + (1 : Int32)) (T.1 4) x2 e2) kX7_store kvX7_store wn_X4_27 [1] rfl rfl rfl rfl rfl rfl rfl (Nat.le_of_ble_eq_true rfl) ⟨Nat.le_of_ble_eq_true rfl, Nat.le_of_ble_eq_true rfl⟩ ⟨Nat.zero_le _, Nat.zero_le _⟩ dX4_hold_31 rfl ?_
  refine g_aload_n C 35 1 dX4_hold_34 rfl rfl ?_
  refine g_get (v := .ref (u 2)) C 38 4 0 2 hin_4 rfl rfl (by decide) wf_X4_18 rfl dX4_hold_35 rfl ?_
  refine g_iload_n C 39 0 dX4_hold_38 rfl rfl ?_
  refine g_iconst C 40 (2 : Int32) dX4_hold_39 rfl rfl ?_
  refine g_iadd C 41 dX4_hold_40 rfl ?_
  refine g_aload_n C 42 2 dX4_hold_41 rfl rfl ?_
  refine g_get (v := .int (T.1 5)) C 45 6 2 5 hin_6 rfl rfl (by decide) wf_X4_34 rfl dX4_hold_42 rfl ?_
  refine bnd h (fun x3 e3 h => ?_)
  refine g_callNw (w' := (cells4T L o u t q (sa (sa (sa S 2 x1) 2 x2) 2 x3) T)) C 48 [] [] (ct_X7_store L (u 2) 72 x2 (((S.1 1) * (8 : Int32)) + (2 : Int32)) (T.1 5) x3 e3) kX7_store kvX7_store wn_X4_27 [1] rfl rfl rfl rfl rfl rfl rfl (Nat.le_of_ble_eq_true rfl) ⟨Nat.le_of_ble_eq_true rfl, Nat.le_of_ble_eq_true rfl⟩ ⟨Nat.zero_le _, Nat.zero_le _⟩ dX4_hold_45 rfl ?_
  refine g_iconst C 49 (0 : Int32) dX4_hold_48 rfl rfl ?_
  refine g_istore_n C 50 3 [(3, .int (0 : Int32)), (2, .int ((S.1 1) * (8 : Int32))), (0, .ref o), (1, .ref t)] dX4_hold_49 rfl rfl 4 hNL (by decide) rfl ?_
  refine g_lv (lv' := [(0, .ref o), (1, .ref t), (2, .int ((S.1 1) * (8 : Int32))), (3, .int (0 : Int32))]) [2, 3, 1, 0] rfl ?_
  exact J_50 _ _ _ _ h
set_option maxHeartbeats 4000000 in
set_option maxRecDepth 100000 in
theorem ct_X4_keep (L : LL) (o : Nat) (u : Nat → Nat) (S : OS) (x : OS) (h : f_X4_keep S = some x) : Ct L yX4_keep cX4_keep 1 none (rmk 1 0 0 21) 0 0 [.ref o] (cells4 L o u S) (Pv none (cells4 L o u x)) := by
  refine g_enter (lv := [(0, .ref o)]) kX4_keep rfl rfl (Nat.le_of_ble_eq_true rfl) (fun Γ C E hNL => ?_)
  unfold f_X4_keep at h
  refine g_aload_n C 1 0 dX4_keep_0 rfl rfl ?_
  refine g_aload_n C 2 0 dX4_keep_1 rfl rfl ?_
  refine g_get (v := .int (S.1 1)) C 5 4 0 1 hin_4 rfl rfl (by decide) wf_X4_15 rfl dX4_keep_2 rfl ?_
  refine g_iconst C 6 (1 : Int32) dX4_keep_5 rfl rfl ?_
  refine g_iadd C 7 dX4_keep_6 rfl ?_
  refine g_bipush C 9 (9 : Int32) dX4_keep_7 rfl rfl ?_
  refine g_irem C 10 dX4_keep_9 rfl (by decide) ?_
  refine g_put (w' := (cells4 L o u (su S 1 (remI ((S.1 1) + (1 : Int32)) (9 : Int32))))) C 13 4 0 1 hin_4 tyX4 tyX4_ok nmX4 rfl rfl (by decide) wf_X4_15 rfl rfl rfl (Nat.le_of_ble_eq_true rfl) dX4_keep_10 rfl rfl ?_
  refine g_aload_n C 14 0 dX4_keep_13 rfl rfl ?_
  refine g_aload_n C 15 0 dX4_keep_14 rfl rfl ?_
  refine g_get (v := .int (S.1 0)) C 18 4 0 0 hin_4 rfl rfl (by decide) wf_X4_9 rfl dX4_keep_15 rfl ?_
  refine g_iconst C 19 (1 : Int32) dX4_keep_18 rfl rfl ?_
  refine g_iadd C 20 dX4_keep_19 rfl ?_
  refine g_bipush C 22 (8 : Int32) dX4_keep_20 rfl rfl ?_
  refine g_mmin C 25 wm_X4_44 hs_min hi_math hc_min ⟨Nat.le_of_ble_eq_true rfl, Nat.le_of_ble_eq_true rfl⟩ ⟨Nat.le_of_ble_eq_true rfl, Nat.le_of_ble_eq_true rfl⟩ dX4_keep_22 rfl ?_
  refine g_put (w' := (cells4 L o u (su (su S 1 (remI ((S.1 1) + (1 : Int32)) (9 : Int32))) 0 (minI ((S.1 0) + (1 : Int32)) (8 : Int32))))) C 28 4 0 0 hin_4 tyX4 tyX4_ok nmX4 rfl rfl (by decide) wf_X4_9 rfl rfl rfl (Nat.le_of_ble_eq_true rfl) dX4_keep_25 rfl rfl ?_
  exact g_vret (st := []) C E dX4_keep_28 (by obtain rfl := Option.some.inj h; exact ⟨rfl, rfl⟩)
set_option maxHeartbeats 4000000 in
set_option maxRecDepth 100000 in
theorem ct_X4_takeBack (L : LL) (o : Nat) (u : Nat → Nat) (t : Nat) (q : Nat → Nat) (S : OS) (T : OS) (x : (Int32 × OS × OS)) (h : f_X4_takeBack S T = some x) : Ct L yX4_takeBack cX4_takeBack 4 (some .int) (rmk 1 0 0 22) 0 0 [.ref o, .ref t] (cells4T L o u t q S T) (Pv (some (.int x.1)) (cells4T L o u t q x.2.1 x.2.2)) := by
  refine g_enter (lv := [(0, .ref o), (1, .ref t)]) kX4_takeBack rfl rfl (Nat.le_of_ble_eq_true rfl) (fun Γ C E hNL => ?_)
  have J_76 : ∀ (n : Nat) (v2 : Int32) (S : OS) (v3 : Int32) (T : OS), Lp2 (b_X4_takeBack_76   v2 S) n v3 T = some x → G L Γ 0 0 (cells4T L o u t q S T) 76 [(0, .ref o), (1, .ref t), (2, .int v2), (3, .int v3)] [] := by
    intro n v2 S
    refine lp_ok2 (fun v3 T => G L Γ 0 0 (cells4T L o u t q S T) 76 [(0, .ref o), (1, .ref t), (2, .int v2), (3, .int v3)] []) (fun k_76 hk_76 => ?_) n
    intro v3 T h
    unfold b_X4_takeBack_76 at h
    refine g_iload_n C 77 3 dX4_takeBack_76 rfl rfl ?_
    refine g_iconst C 78 (5 : Int32) dX4_takeBack_77 rfl rfl ?_
    refine g_icmp_ge C 107 81 dX4_takeBack_78 (by decide) rfl (fun c => ?_) (fun c => ?_)
    · have h := ifT c h
      refine g_aload_n C 108 0 dX4_takeBack_107 rfl rfl ?_
      refine g_get (v := .int (S.1 0)) C 111 4 0 0 hin_4 rfl rfl (by decide) wf_X4_9 rfl dX4_takeBack_108 rfl ?_
      exact g_iret (st := []) C E dX4_takeBack_111 (by obtain rfl := Option.some.inj h; exact ⟨rfl, rfl⟩)
    · have h := ifF c h
      refine g_aload_n C 82 1 dX4_takeBack_81 rfl rfl ?_
      refine g_get (v := .ref (q 11)) C 85 6 2 11 hin_6 rfl rfl (by decide) wf_X4_37 rfl dX4_takeBack_82 rfl ?_
      refine g_iload_n C 86 3 dX4_takeBack_85 rfl rfl ?_
      refine g_aload_n C 87 0 dX4_takeBack_86 rfl rfl ?_
      refine g_get (v := .ref (u 2)) C 90 4 0 2 hin_4 rfl rfl (by decide) wf_X4_18 rfl dX4_takeBack_87 rfl ?_
      refine g_iload_n C 91 2 dX4_takeBack_90 rfl rfl ?_
      refine g_iconst C 92 (3 : Int32) dX4_takeBack_91 rfl rfl ?_
      refine g_iadd C 93 dX4_takeBack_92 rfl ?_
      refine g_iload_n C 94 3 dX4_takeBack_93 rfl rfl ?_
      refine g_iadd C 95 dX4_takeBack_94 rfl ?_
      refine bnd h (fun x4 e4 h => ?_)
      refine g_callNr C 98 [.int v3, .ref (q 11)] [.int x4, .int v3, .ref (q 11)] (ct_X7_at L (u 2) 72 (S.2 2) ((v2 + (3 : Int32)) + v3) x4 e4) kX7_at kvX7_at wn_X4_40 [1] rfl rfl rfl rfl rfl (Nat.le_of_ble_eq_true rfl) ⟨Nat.le_of_ble_eq_true rfl, Nat.le_of_ble_eq_true rfl⟩ ⟨Nat.zero_le _, Nat.zero_le _⟩ dX4_takeBack_95 rfl ?_
      refine bnd h (fun x5 e5 h => ?_)
      refine g_callNw (w' := (cells4T L o u t q S (sa T 11 x5))) C 101 [] [] (ct_X7_store L (q 11) 5 (T.2 11) v3 x4 x5 e5) kX7_store kvX7_store wn_X4_27 [8] rfl rfl rfl rfl rfl rfl rfl (Nat.le_of_ble_eq_true rfl) ⟨Nat.le_of_ble_eq_true rfl, Nat.le_of_ble_eq_true rfl⟩ ⟨Nat.zero_le _, Nat.zero_le _⟩ dX4_takeBack_98 rfl ?_
      refine g_iinc C 104 (1 : Int32) 3 [(3, .int (v3 + (1 : Int32))), (0, .ref o), (1, .ref t), (2, .int v2)] dX4_takeBack_101 rfl rfl 4 hNL (by decide) rfl rfl ?_
      refine g_goto C 76 dX4_takeBack_104 (by decide) ?_
      refine g_lv (lv' := [(0, .ref o), (1, .ref t), (2, .int v2), (3, .int (v3 + (1 : Int32)))]) [1, 2, 3, 0] rfl ?_
      exact hk_76 _ _ h
  unfold f_X4_takeBack at h
  refine g_aload_n C 1 0 dX4_takeBack_0 rfl rfl ?_
  refine g_aload_n C 2 0 dX4_takeBack_1 rfl rfl ?_
  refine g_get (v := .int (S.1 1)) C 5 4 0 1 hin_4 rfl rfl (by decide) wf_X4_15 rfl dX4_takeBack_2 rfl ?_
  refine g_bipush C 7 (9 : Int32) dX4_takeBack_5 rfl rfl ?_
  refine g_iadd C 8 dX4_takeBack_7 rfl ?_
  refine g_iconst C 9 (1 : Int32) dX4_takeBack_8 rfl rfl ?_
  refine g_isub C 10 dX4_takeBack_9 rfl ?_
  refine g_bipush C 12 (9 : Int32) dX4_takeBack_10 rfl rfl ?_
  refine g_irem C 13 dX4_takeBack_12 rfl (by decide) ?_
  refine g_put (w' := (cells4T L o u t q (su S 1 (remI (((S.1 1) + (9 : Int32)) - (1 : Int32)) (9 : Int32))) T)) C 16 4 0 1 hin_4 tyX4 tyX4_ok nmX4 rfl rfl (by decide) wf_X4_15 rfl rfl rfl (Nat.le_of_ble_eq_true rfl) dX4_takeBack_13 rfl rfl ?_
  refine g_aload_n C 17 0 dX4_takeBack_16 rfl rfl ?_
  refine g_dup C 18 dX4_takeBack_17 rfl rfl ?_
  refine g_get (v := .int (S.1 0)) C 21 4 0 0 hin_4 rfl rfl (by decide) wf_X4_9 rfl dX4_takeBack_18 rfl ?_
  refine g_iconst C 22 (1 : Int32) dX4_takeBack_21 rfl rfl ?_
  refine g_isub C 23 dX4_takeBack_22 rfl ?_
  refine g_put (w' := (cells4T L o u t q (su (su S 1 (remI (((S.1 1) + (9 : Int32)) - (1 : Int32)) (9 : Int32))) 0 ((S.1 0) - (1 : Int32))) T)) C 26 4 0 0 hin_4 tyX4 tyX4_ok nmX4 rfl rfl (by decide) wf_X4_9 rfl rfl rfl (Nat.le_of_ble_eq_true rfl) dX4_takeBack_23 rfl rfl ?_
  refine g_aload_n C 27 0 dX4_takeBack_26 rfl rfl ?_
  refine g_get (v := .int (remI (((S.1 1) + (9 : Int32)) - (1 : Int32)) (9 : Int32))) C 30 4 0 1 hin_4 rfl rfl (by decide) wf_X4_15 rfl dX4_takeBack_27 rfl ?_
  refine g_bipush C 32 (8 : Int32) dX4_takeBack_30 rfl rfl ?_
  refine g_imul C 33 dX4_takeBack_32 rfl ?_
  refine g_istore_n C 34 2 [(2, .int ((remI (((S.1 1) + (9 : Int32)) - (1 : Int32)) (9 : Int32)) * (8 : Int32))), (0, .ref o), (1, .ref t)] dX4_takeBack_33 rfl rfl 4 hNL (by decide) rfl ?_
  refine g_aload_n C 35 2 dX4_takeBack_34 rfl rfl ?_
  refine g_aload_n C 36 1 dX4_takeBack_35 rfl rfl ?_
  refine g_get (v := .ref (u 2)) C 39 4 0 2 hin_4 rfl rfl (by decide) wf_X4_18 rfl dX4_takeBack_36 rfl ?_
  refine g_iload_n C 40 0 dX4_takeBack_39 rfl rfl ?_
  refine bnd h (fun x1 e1 h => ?_)
  refine g_callNr C 43 [.ref t] [.int x1, .ref t] (ct_X7_at L (u 2) 72 (S.2 2) ((remI (((S.1 1) + (9 : Int32)) - (1 : Int32)) (9 : Int32)) * (8 : Int32)) x1 e1) kX7_at kvX7_at wn_X4_40 [1] rfl rfl rfl rfl rfl (Nat.le_of_ble_eq_true rfl) ⟨Nat.le_of_ble_eq_true rfl, Nat.le_of_ble_eq_true rfl⟩ ⟨Nat.zero_le _, Nat.zero_le _⟩ dX4_takeBack_40 rfl ?_
  refine g_put (w' := (cells4T L o u t q (su (su S 1 (remI (((S.1 1) + (9 : Int32)) - (1 : Int32)) (9 : Int32))) 0 ((S.1 0) - (1 : Int32))) (su T 3 x1))) C 46 6 2 3 hin_6 tyX6 tyX6_ok nmX6 rfl rfl (by decide) wf_X4_22 rfl rfl rfl (Nat.le_of_ble_eq_true rfl) dX4_takeBack_43 rfl rfl ?_
  refine g_aload_n C 47 2 dX4_takeBack_46 rfl rfl ?_
  refine g_aload_n C 48 1 dX4_takeBack_47 rfl rfl ?_
  refine g_get (v := .ref (u 2)) C 51 4 0 2 hin_4 rfl rfl (by decide) wf_X4_18 rfl dX4_takeBack_48 rfl ?_
  refine g_iload_n C 52 0 dX4_takeBack_51 rfl rfl ?_
  refine g_iconst C 53 (1 : Int32) dX4_takeBack_52 rfl rfl ?_
  refine g_iadd C 54 dX4_takeBack_53 rfl ?_
  refine bnd h (fun x2 e2 h => ?_)
  refine g_callNr C 57 [.ref t] [.int x2, .ref t] (ct_X7_at L (u 2) 72 (S.2 2) (((remI (((S.1 1) + (9 : Int32)) - (1 : Int32)) (9 : Int32)) * (8 : Int32)) + (1 : Int32)) x2 e2) kX7_at kvX7_at wn_X4_40 [1] rfl rfl rfl rfl rfl (Nat.le_of_ble_eq_true rfl) ⟨Nat.le_of_ble_eq_true rfl, Nat.le_of_ble_eq_true rfl⟩ ⟨Nat.zero_le _, Nat.zero_le _⟩ dX4_takeBack_54 rfl ?_
  refine g_put (w' := (cells4T L o u t q (su (su S 1 (remI (((S.1 1) + (9 : Int32)) - (1 : Int32)) (9 : Int32))) 0 ((S.1 0) - (1 : Int32))) (su (su T 3 x1) 4 x2))) C 60 6 2 4 hin_6 tyX6 tyX6_ok nmX6 rfl rfl (by decide) wf_X4_31 rfl rfl rfl (Nat.le_of_ble_eq_true rfl) dX4_takeBack_57 rfl rfl ?_
  refine g_aload_n C 61 2 dX4_takeBack_60 rfl rfl ?_
  refine g_aload_n C 62 1 dX4_takeBack_61 rfl rfl ?_
  refine g_get (v := .ref (u 2)) C 65 4 0 2 hin_4 rfl rfl (by decide) wf_X4_18 rfl dX4_takeBack_62 rfl ?_
  refine g_iload_n C 66 0 dX4_takeBack_65 rfl rfl ?_
  refine g_iconst C 67 (2 : Int32) dX4_takeBack_66 rfl rfl ?_
  refine g_iadd C 68 dX4_takeBack_67 rfl ?_
  refine bnd h (fun x3 e3 h => ?_)
  refine g_callNr C 71 [.ref t] [.int x3, .ref t] (ct_X7_at L (u 2) 72 (S.2 2) (((remI (((S.1 1) + (9 : Int32)) - (1 : Int32)) (9 : Int32)) * (8 : Int32)) + (2 : Int32)) x3 e3) kX7_at kvX7_at wn_X4_40 [1] rfl rfl rfl rfl rfl (Nat.le_of_ble_eq_true rfl) ⟨Nat.le_of_ble_eq_true rfl, Nat.le_of_ble_eq_true rfl⟩ ⟨Nat.zero_le _, Nat.zero_le _⟩ dX4_takeBack_68 rfl ?_
  refine g_put (w' := (cells4T L o u t q (su (su S 1 (remI (((S.1 1) + (9 : Int32)) - (1 : Int32)) (9 : Int32))) 0 ((S.1 0) - (1 : Int32))) (su (su (su T 3 x1) 4 x2) 5 x3))) C 74 6 2 5 hin_6 tyX6 tyX6_ok nmX6 rfl rfl (by decide) wf_X4_34 rfl rfl rfl (Nat.le_of_ble_eq_true rfl) dX4_takeBack_71 rfl rfl ?_
  refine g_iconst C 75 (0 : Int32) dX4_takeBack_74 rfl rfl ?_
  refine g_istore_n C 76 3 [(3, .int (0 : Int32)), (2, .int ((remI (((S.1 1) + (9 : Int32)) - (1 : Int32)) (9 : Int32)) * (8 : Int32))), (0, .ref o), (1, .ref t)] dX4_takeBack_75 rfl rfl 4 hNL (by decide) rfl ?_
  refine g_lv (lv' := [(0, .ref o), (1, .ref t), (2, .int ((remI (((S.1 1) + (9 : Int32)) - (1 : Int32)) (9 : Int32)) * (8 : Int32))), (3, .int (0 : Int32))]) [2, 3, 1, 0] rfl ?_
  exact J_76 _ _ _ _ _ h
set_option maxHeartbeats 4000000 in
set_option maxRecDepth 100000 in
theorem ct_X5_add (L : LL) (o : Nat) (u : Nat → Nat) (t : Nat) (q : Nat → Nat) (S : OS) (T : OS) (v1 : Int32) (x : (Int32 × OS)) (h : f_X5_add S T v1 = some x) : Ct L yX5_add cX5_add 2 (some .int) (rmk 1 0 0 22) 0 0 [.ref o, .int v1] (cells5 L o u t q S T) (Pv (some (.int x.1)) (cells5 L o u t q x.2 T)) := by
  refine g_enter (lv := [(0, .ref o), (1, .int v1)]) kX5_add rfl rfl (Nat.le_of_ble_eq_true rfl) (fun Γ C E hNL => ?_)
  unfold f_X5_add at h
  refine g_aload_n C 1 0 dX5_add_0 rfl rfl ?_
  refine g_get (v := .ref (u 1)) C 4 5 0 1 hin_5 rfl rfl (by decide) wf_X5_19 rfl dX5_add_1 rfl ?_
  refine g_aload_n C 5 0 dX5_add_4 rfl rfl ?_
  refine g_get (v := .int (S.1 0)) C 8 5 0 0 hin_5 rfl rfl (by decide) wf_X5_15 rfl dX5_add_5 rfl ?_
  refine g_iload_n C 9 1 dX5_add_8 rfl rfl ?_
  refine bnd h (fun x1 e1 h => ?_)
  refine g_callNw (w' := (cells5 L o u t q (sa S 1 x1) T)) C 12 [] [] (ct_X7_store L (u 1) 12 (S.2 1) (S.1 0) v1 x1 e1) kX7_store kvX7_store wn_X5_23 [1] rfl rfl rfl rfl rfl rfl rfl (Nat.le_of_ble_eq_true rfl) ⟨Nat.le_of_ble_eq_true rfl, Nat.le_of_ble_eq_true rfl⟩ ⟨Nat.zero_le _, Nat.zero_le _⟩ dX5_add_9 rfl ?_
  refine g_aload_n C 13 0 dX5_add_12 rfl rfl ?_
  refine g_dup C 14 dX5_add_13 rfl rfl ?_
  refine g_get (v := .int (S.1 0)) C 17 5 0 0 hin_5 rfl rfl (by decide) wf_X5_15 rfl dX5_add_14 rfl ?_
  refine g_iconst C 18 (1 : Int32) dX5_add_17 rfl rfl ?_
  refine g_iadd C 19 dX5_add_18 rfl ?_
  refine g_put (w' := (cells5 L o u t q (su (sa S 1 x1) 0 ((S.1 0) + (1 : Int32))) T)) C 22 5 0 0 hin_5 tyX5 tyX5_ok nmX5 rfl rfl (by decide) wf_X5_15 rfl rfl rfl (Nat.le_of_ble_eq_true rfl) dX5_add_19 rfl rfl ?_
  refine g_aload_n C 23 0 dX5_add_22 rfl rfl ?_
  refine g_get (v := .int ((S.1 0) + (1 : Int32))) C 26 5 0 0 hin_5 rfl rfl (by decide) wf_X5_15 rfl dX5_add_23 rfl ?_
  exact g_iret (st := []) C E dX5_add_26 (by obtain rfl := Option.some.inj h; exact ⟨rfl, rfl⟩)
set_option maxHeartbeats 4000000 in
set_option maxRecDepth 100000 in
theorem ct_X5_tellsWhoPassed (L : LL) (o : Nat) (u : Nat → Nat) (t : Nat) (q : Nat → Nat) (S : OS) (T : OS) (x : Int32) (h : f_X5_tellsWhoPassed S T = some x) : Ct L yX5_tellsWhoPassed cX5_tellsWhoPassed 2 (some .boolean) (rmk 1 0 0 21) 0 0 [.ref o] (cells5 L o u t q S T) (Pv (some (.int x)) (cells5 L o u t q S T)) := by
  refine g_enter (lv := [(0, .ref o)]) kX5_tellsWhoPassed rfl rfl (Nat.le_of_ble_eq_true rfl) (fun Γ C E hNL => ?_)
  have J_18 : ∀ (n : Nat)  (v1 : Int32), Lp1 (b_X5_tellsWhoPassed_18 S T  ) n v1 = some x → G L Γ 0 0 (cells5 L o u t q S T) 18 [(0, .ref o), (1, .int v1)] [] := by
    intro n 
    refine lp_ok1 (fun v1 => G L Γ 0 0 (cells5 L o u t q S T) 18 [(0, .ref o), (1, .int v1)] []) (fun k_18 hk_18 => ?_) n
    intro v1 h
    unfold b_X5_tellsWhoPassed_18 at h
    refine g_iload_n C 19 1 dX5_tellsWhoPassed_18 rfl rfl ?_
    refine g_aload_n C 20 0 dX5_tellsWhoPassed_19 rfl rfl ?_
    refine g_get (v := .int (S.1 0)) C 23 5 0 0 hin_5 rfl rfl (by decide) wf_X5_15 rfl dX5_tellsWhoPassed_20 rfl ?_
    refine g_icmp_ge C 46 26 dX5_tellsWhoPassed_23 (by decide) rfl (fun c => ?_) (fun c => ?_)
    · have h := ifT c h
      refine g_iconst C 47 (1 : Int32) dX5_tellsWhoPassed_46 rfl rfl ?_
      exact g_zret (st := []) C E dX5_tellsWhoPassed_47 rfl (by obtain rfl := Option.some.inj h; exact ⟨rfl, rfl⟩)
    · have h := ifF c h
      refine g_aload_n C 27 0 dX5_tellsWhoPassed_26 rfl rfl ?_
      refine g_get (v := .ref (u 1)) C 30 5 0 1 hin_5 rfl rfl (by decide) wf_X5_19 rfl dX5_tellsWhoPassed_27 rfl ?_
      refine g_iload_n C 31 1 dX5_tellsWhoPassed_30 rfl rfl ?_
      refine bnd h (fun x1 e1 h => ?_)
      refine g_callNr C 34 [] [.int x1] (ct_X7_at L (u 1) 12 (S.2 1) v1 x1 e1) kX7_at kvX7_at wn_X5_32 [1] rfl rfl rfl rfl rfl (Nat.le_of_ble_eq_true rfl) ⟨Nat.le_of_ble_eq_true rfl, Nat.le_of_ble_eq_true rfl⟩ ⟨Nat.zero_le _, Nat.zero_le _⟩ dX5_tellsWhoPassed_31 rfl ?_
      refine g_iconst C 35 (2 : Int32) dX5_tellsWhoPassed_34 rfl rfl ?_
      refine g_icmp_le C 40 38 dX5_tellsWhoPassed_35 (by decide) rfl (fun c => ?_) (fun c => ?_)
      · have h := ifT c h
        refine g_iinc C 43 (1 : Int32) 1 [(1, .int (v1 + (1 : Int32))), (0, .ref o)] dX5_tellsWhoPassed_40 rfl rfl 2 hNL (by decide) rfl rfl ?_
        refine g_goto C 18 dX5_tellsWhoPassed_43 (by decide) ?_
        refine g_lv (lv' := [(0, .ref o), (1, .int (v1 + (1 : Int32)))]) [1, 0] rfl ?_
        exact hk_18 _ h
      · have h := ifF c h
        refine g_iconst C 39 (0 : Int32) dX5_tellsWhoPassed_38 rfl rfl ?_
        exact g_zret (st := []) C E dX5_tellsWhoPassed_39 rfl (by obtain rfl := Option.some.inj h; exact ⟨rfl, rfl⟩)
  unfold f_X5_tellsWhoPassed at h
  refine g_aload_n C 1 0 dX5_tellsWhoPassed_0 rfl rfl ?_
  refine g_get (v := .int (S.1 0)) C 4 5 0 0 hin_5 rfl rfl (by decide) wf_X5_15 rfl dX5_tellsWhoPassed_1 rfl ?_
  refine g_aload_n C 5 0 dX5_tellsWhoPassed_4 rfl rfl ?_
  refine g_get (v := .ref t) C 8 5 0 2 hin_5 rfl rfl (by decide) wf_X5_9 rfl dX5_tellsWhoPassed_5 rfl ?_
  refine g_get (v := .int (T.1 2)) C 11 6 2 2 hin_6 rfl rfl (by decide) wf_X5_27 rfl dX5_tellsWhoPassed_8 rfl ?_
  refine g_icmp_le C 16 14 dX5_tellsWhoPassed_11 (by decide) rfl (fun c => ?_) (fun c => ?_)
  · have h := ifT c h
    refine g_iconst C 17 (0 : Int32) dX5_tellsWhoPassed_16 rfl rfl ?_
    refine g_istore_n C 18 1 [(1, .int (0 : Int32)), (0, .ref o)] dX5_tellsWhoPassed_17 rfl rfl 2 hNL (by decide) rfl ?_
    refine g_lv (lv' := [(0, .ref o), (1, .int (0 : Int32))]) [1, 0] rfl ?_
    exact J_18 _ _ h
  · have h := ifF c h
    refine g_iconst C 15 (0 : Int32) dX5_tellsWhoPassed_14 rfl rfl ?_
    exact g_zret (st := []) C E dX5_tellsWhoPassed_15 rfl (by obtain rfl := Option.some.inj h; exact ⟨rfl, rfl⟩)
set_option maxHeartbeats 4000000 in
set_option maxRecDepth 100000 in
theorem ct_X5_limitOf (L : LL) (o : Nat) (u : Nat → Nat) (t : Nat) (q : Nat → Nat) (S : OS) (T : OS) (v1 : Int32) (v2 : Int32) (v3 : Int32) (x : Int32) (h : f_X5_limitOf S T v1 v2 v3 = some x) : Ct L yX5_limitOf cX5_limitOf 4 (some .int) (rmk 3 0 0 72) 0 0 [.ref o, .int v1, .int v2, .int v3] (cells5 L o u t q S T) (Pv (some (.int x)) (cells5 L o u t q S T)) := by
  refine g_enter (lv := [(0, .ref o), (1, .int v1), (2, .int v2), (3, .int v3)]) kX5_limitOf rfl rfl (Nat.le_of_ble_eq_true rfl) (fun Γ C E hNL => ?_)
  unfold f_X5_limitOf at h
  refine g_aload_n C 1 0 dX5_limitOf_0 rfl rfl ?_
  refine g_get (v := .ref t) C 4 5 0 2 hin_5 rfl rfl (by decide) wf_X5_9 rfl dX5_limitOf_1 rfl ?_
  refine g_iload_n C 5 2 dX5_limitOf_4 rfl rfl ?_
  refine g_aload_n C 6 0 dX5_limitOf_5 rfl rfl ?_
  refine g_get (v := .ref t) C 9 5 0 2 hin_5 rfl rfl (by decide) wf_X5_9 rfl dX5_limitOf_6 rfl ?_
  refine g_get (v := .ref (q 10)) C 12 6 2 10 hin_6 rfl rfl (by decide) wf_X5_62 rfl dX5_limitOf_9 rfl ?_
  refine g_iload_n C 13 1 dX5_limitOf_12 rfl rfl ?_
  refine bnd h (fun x1 e1 h => ?_)
  refine g_callNr C 16 [.int v2, .ref t] [.int x1, .int v2, .ref t] (ct_X7_at L (q 10) 5 (T.2 10) v1 x1 e1) kX7_at kvX7_at wn_X5_32 [7] rfl rfl rfl rfl rfl (Nat.le_of_ble_eq_true rfl) ⟨Nat.le_of_ble_eq_true rfl, Nat.le_of_ble_eq_true rfl⟩ ⟨Nat.zero_le _, Nat.zero_le _⟩ dX5_limitOf_13 rfl ?_
  refine g_aload_n C 17 0 dX5_limitOf_16 rfl rfl ?_
  refine g_get (v := .ref t) C 20 5 0 2 hin_5 rfl rfl (by decide) wf_X5_9 rfl dX5_limitOf_17 rfl ?_
  refine g_get (v := .ref (q 11)) C 23 6 2 11 hin_6 rfl rfl (by decide) wf_X5_65 rfl dX5_limitOf_20 rfl ?_
  refine g_iload_n C 24 1 dX5_limitOf_23 rfl rfl ?_
  refine bnd h (fun x2 e2 h => ?_)
  refine g_callNr C 27 [.int x1, .int v2, .ref t] [.int x2, .int x1, .int v2, .ref t] (ct_X7_at L (q 11) 5 (T.2 11) v1 x2 e2) kX7_at kvX7_at wn_X5_32 [8] rfl rfl rfl rfl rfl (Nat.le_of_ble_eq_true rfl) ⟨Nat.le_of_ble_eq_true rfl, Nat.le_of_ble_eq_true rfl⟩ ⟨Nat.zero_le _, Nat.zero_le _⟩ dX5_limitOf_24 rfl ?_
  refine g_iload_n C 28 3 dX5_limitOf_27 rfl rfl ?_
  refine bnd h (fun x3 e3 h => ?_)
  refine g_callVr C 31 [] [.int x3] (ct_X6_limitToPass L t q T v2 x1 x2 v3 x3 e3) kX6_limitToPass kvX6_limitToPass wl_X5_68 6 0 rfl rfl rfl [2, 3, 4, 5, 6, 7, 8] rfl rfl rfl rfl rfl (Nat.le_of_ble_eq_true rfl) ⟨Nat.le_of_ble_eq_true rfl, Nat.le_of_ble_eq_true rfl⟩ ⟨Nat.zero_le _, Nat.zero_le _⟩ dX5_limitOf_28 rfl ?_
  exact g_iret (st := []) C E dX5_limitOf_31 (by obtain rfl := Option.some.inj h; exact ⟨rfl, rfl⟩)
set_option maxHeartbeats 4000000 in
set_option maxRecDepth 100000 in
theorem ct_X5_highestLimit (L : LL) (o : Nat) (u : Nat → Nat) (t : Nat) (q : Nat → Nat) (S : OS) (T : OS) (v1 : Int32) (x : Int32) (h : f_X5_highestLimit S T v1 = some x) : Ct L yX5_highestLimit cX5_highestLimit 4 (some .int) (rmk 4 0 0 95) 0 0 [.ref o, .int v1] (cells5 L o u t q S T) (Pv (some (.int x)) (cells5 L o u t q S T)) := by
  refine g_enter (lv := [(0, .ref o), (1, .int v1)]) kX5_highestLimit rfl rfl (Nat.le_of_ble_eq_true rfl) (fun Γ C E hNL => ?_)
  have J_5 : ∀ (n : Nat) (v1 : Int32) (v2 : Int32) (v3 : Int32), Lp2 (b_X5_highestLimit_5 S T  v1) n v2 v3 = some x → G L Γ 0 0 (cells5 L o u t q S T) 5 [(0, .ref o), (1, .int v1), (2, .int v2), (3, .int v3)] [] := by
    intro n v1
    refine lp_ok2 (fun v2 v3 => G L Γ 0 0 (cells5 L o u t q S T) 5 [(0, .ref o), (1, .int v1), (2, .int v2), (3, .int v3)] []) (fun k_5 hk_5 => ?_) n
    have J_57 : ∀ (v2 : Int32) (v3 : Int32), j_X5_highestLimit_57 S T k_5 v1 v2 v3 = some x → G L Γ 0 0 (cells5 L o u t q S T) 57 [(0, .ref o), (1, .int v1), (2, .int v2), (3, .int v3)] [] := by
      intro v2 v3 h
      unfold j_X5_highestLimit_57 at h
      refine g_iinc C 60 (1 : Int32) 3 [(3, .int (v3 + (1 : Int32))), (0, .ref o), (1, .int v1), (2, .int v2)] dX5_highestLimit_57 rfl rfl 4 hNL (by decide) rfl rfl ?_
      refine g_goto C 5 dX5_highestLimit_60 (by decide) ?_
      refine g_lv (lv' := [(0, .ref o), (1, .int v1), (2, .int v2), (3, .int (v3 + (1 : Int32)))]) [1, 2, 3, 0] rfl ?_
      exact hk_5 _ _ h
    intro v2 v3 h
    unfold b_X5_highestLimit_5 at h
    refine g_iload_n C 6 3 dX5_highestLimit_5 rfl rfl ?_
    refine g_aload_n C 7 0 dX5_highestLimit_6 rfl rfl ?_
    refine g_get (v := .int (S.1 0)) C 10 5 0 0 hin_5 rfl rfl (by decide) wf_X5_15 rfl dX5_highestLimit_7 rfl ?_
    refine g_icmp_ge C 63 13 dX5_highestLimit_10 (by decide) rfl (fun c => ?_) (fun c => ?_)
    · have h := ifT c h
      refine g_iload_n C 64 2 dX5_highestLimit_63 rfl rfl ?_
      exact g_iret (st := []) C E dX5_highestLimit_64 (by obtain rfl := Option.some.inj h; exact ⟨rfl, rfl⟩)
    · have h := ifF c h
      refine g_aload_n C 14 0 dX5_highestLimit_13 rfl rfl ?_
      refine g_get (v := .ref (u 1)) C 17 5 0 1 hin_5 rfl rfl (by decide) wf_X5_19 rfl dX5_highestLimit_14 rfl ?_
      refine g_iload_n C 18 3 dX5_highestLimit_17 rfl rfl ?_
      refine bnd h (fun x1 e1 h => ?_)
      refine g_callNr C 21 [] [.int x1] (ct_X7_at L (u 1) 12 (S.2 1) v3 x1 e1) kX7_at kvX7_at wn_X5_32 [1] rfl rfl rfl rfl rfl (Nat.le_of_ble_eq_true rfl) ⟨Nat.le_of_ble_eq_true rfl, Nat.le_of_ble_eq_true rfl⟩ ⟨Nat.zero_le _, Nat.zero_le _⟩ dX5_highestLimit_18 rfl ?_
      refine g_iconst C 22 (1 : Int32) dX5_highestLimit_21 rfl rfl ?_
      refine g_icmp_eq C 57 25 dX5_highestLimit_22 (by decide) rfl (fun c => ?_) (fun c => ?_)
      · have h := ifT c h
        exact J_57 _ _ h
      · have h := ifF c h
        refine g_aload_n C 26 0 dX5_highestLimit_25 rfl rfl ?_
        refine g_get (v := .ref (u 1)) C 29 5 0 1 hin_5 rfl rfl (by decide) wf_X5_19 rfl dX5_highestLimit_26 rfl ?_
        refine g_iload_n C 30 3 dX5_highestLimit_29 rfl rfl ?_
        refine bnd h (fun x2 e2 h => ?_)
        refine g_callNr C 33 [] [.int x2] (ct_X7_at L (u 1) 12 (S.2 1) v3 x2 e2) kX7_at kvX7_at wn_X5_32 [1] rfl rfl rfl rfl rfl (Nat.le_of_ble_eq_true rfl) ⟨Nat.le_of_ble_eq_true rfl, Nat.le_of_ble_eq_true rfl⟩ ⟨Nat.zero_le _, Nat.zero_le _⟩ dX5_highestLimit_30 rfl ?_
        refine g_iconst C 34 (2 : Int32) dX5_highestLimit_33 rfl rfl ?_
        refine g_icmp_eq C 57 37 dX5_highestLimit_34 (by decide) rfl (fun c => ?_) (fun c => ?_)
        · have h := ifT c h
          exact J_57 _ _ h
        · have h := ifF c h
          refine g_iload_n C 38 2 dX5_highestLimit_37 rfl rfl ?_
          refine g_aload_n C 39 0 dX5_highestLimit_38 rfl rfl ?_
          refine g_iload_n C 40 3 dX5_highestLimit_39 rfl rfl ?_
          refine g_iload_n C 41 1 dX5_highestLimit_40 rfl rfl ?_
          refine g_aload_n C 42 0 dX5_highestLimit_41 rfl rfl ?_
          refine g_get (v := .ref t) C 45 5 0 2 hin_5 rfl rfl (by decide) wf_X5_9 rfl dX5_highestLimit_42 rfl ?_
          refine g_get (v := .int (T.1 3)) C 48 6 2 3 hin_6 rfl rfl (by decide) wf_X5_52 rfl dX5_highestLimit_45 rfl ?_
          refine bnd h (fun x3 e3 h => ?_)
          refine g_callVr C 51 [.int v2] [.int x3, .int v2] (ct_X5_limitOf L o u t q S T v3 v1 (T.1 3) x3 e3) kX5_limitOf kvX5_limitOf wl_X5_55 5 0 rfl rfl rfl [0, 1, 2, 3, 4, 5, 6, 7, 8] rfl rfl rfl rfl rfl (Nat.le_of_ble_eq_true rfl) ⟨Nat.le_of_ble_eq_true rfl, Nat.le_of_ble_eq_true rfl⟩ ⟨Nat.zero_le _, Nat.zero_le _⟩ dX5_highestLimit_48 rfl ?_
          refine g_iconst C 52 (1 : Int32) dX5_highestLimit_51 rfl rfl ?_
          refine g_isub C 53 dX5_highestLimit_52 rfl ?_
          refine g_mmin C 56 wm_X5_59 hs_min hi_math hc_min ⟨Nat.le_of_ble_eq_true rfl, Nat.le_of_ble_eq_true rfl⟩ ⟨Nat.le_of_ble_eq_true rfl, Nat.le_of_ble_eq_true rfl⟩ dX5_highestLimit_53 rfl ?_
          refine g_istore_n C 57 2 [(2, .int (minI v2 (x3 - (1 : Int32)))), (0, .ref o), (1, .int v1), (3, .int v3)] dX5_highestLimit_56 rfl rfl 4 hNL (by decide) rfl ?_
          refine g_lv (lv' := [(0, .ref o), (1, .int v1), (2, .int (minI v2 (x3 - (1 : Int32)))), (3, .int v3)]) [1, 2, 0, 3] rfl ?_
          exact J_57 _ _ h
  unfold f_X5_highestLimit at h
  refine g_bipush C 2 (99 : Int32) dX5_highestLimit_0 rfl rfl ?_
  refine g_istore_n C 3 2 [(2, .int (99 : Int32)), (0, .ref o), (1, .int v1)] dX5_highestLimit_2 rfl rfl 4 hNL (by decide) rfl ?_
  refine g_iconst C 4 (0 : Int32) dX5_highestLimit_3 rfl rfl ?_
  refine g_istore_n C 5 3 [(3, .int (0 : Int32)), (2, .int (99 : Int32)), (0, .ref o), (1, .int v1)] dX5_highestLimit_4 rfl rfl 4 hNL (by decide) rfl ?_
  refine g_lv (lv' := [(0, .ref o), (1, .int v1), (2, .int (99 : Int32)), (3, .int (0 : Int32))]) [2, 3, 1, 0] rfl ?_
  exact J_5 _ _ _ _ h
set_option maxHeartbeats 4000000 in
set_option maxRecDepth 100000 in
theorem ct_X5_lowestLimit (L : LL) (o : Nat) (u : Nat → Nat) (t : Nat) (q : Nat → Nat) (S : OS) (T : OS) (v1 : Int32) (x : Int32) (h : f_X5_lowestLimit S T v1 = some x) : Ct L yX5_lowestLimit cX5_lowestLimit 4 (some .int) (rmk 4 0 0 95) 0 0 [.ref o, .int v1] (cells5 L o u t q S T) (Pv (some (.int x)) (cells5 L o u t q S T)) := by
  refine g_enter (lv := [(0, .ref o), (1, .int v1)]) kX5_lowestLimit rfl rfl (Nat.le_of_ble_eq_true rfl) (fun Γ C E hNL => ?_)
  have J_4 : ∀ (n : Nat) (v1 : Int32) (v2 : Int32) (v3 : Int32), Lp2 (b_X5_lowestLimit_4 S T  v1) n v2 v3 = some x → G L Γ 0 0 (cells5 L o u t q S T) 4 [(0, .ref o), (1, .int v1), (2, .int v2), (3, .int v3)] [] := by
    intro n v1
    refine lp_ok2 (fun v2 v3 => G L Γ 0 0 (cells5 L o u t q S T) 4 [(0, .ref o), (1, .int v1), (2, .int v2), (3, .int v3)] []) (fun k_4 hk_4 => ?_) n
    have J_42 : ∀ (v2 : Int32) (v3 : Int32), j_X5_lowestLimit_42 S T k_4 v1 v2 v3 = some x → G L Γ 0 0 (cells5 L o u t q S T) 42 [(0, .ref o), (1, .int v1), (2, .int v2), (3, .int v3)] [] := by
      intro v2 v3 h
      unfold j_X5_lowestLimit_42 at h
      refine g_iinc C 45 (1 : Int32) 3 [(3, .int (v3 + (1 : Int32))), (0, .ref o), (1, .int v1), (2, .int v2)] dX5_lowestLimit_42 rfl rfl 4 hNL (by decide) rfl rfl ?_
      refine g_goto C 4 dX5_lowestLimit_45 (by decide) ?_
      refine g_lv (lv' := [(0, .ref o), (1, .int v1), (2, .int v2), (3, .int (v3 + (1 : Int32)))]) [1, 2, 3, 0] rfl ?_
      exact hk_4 _ _ h
    intro v2 v3 h
    unfold b_X5_lowestLimit_4 at h
    refine g_iload_n C 5 3 dX5_lowestLimit_4 rfl rfl ?_
    refine g_aload_n C 6 0 dX5_lowestLimit_5 rfl rfl ?_
    refine g_get (v := .int (S.1 0)) C 9 5 0 0 hin_5 rfl rfl (by decide) wf_X5_15 rfl dX5_lowestLimit_6 rfl ?_
    refine g_icmp_ge C 48 12 dX5_lowestLimit_9 (by decide) rfl (fun c => ?_) (fun c => ?_)
    · have h := ifT c h
      refine g_iload_n C 49 2 dX5_lowestLimit_48 rfl rfl ?_
      exact g_iret (st := []) C E dX5_lowestLimit_49 (by obtain rfl := Option.some.inj h; exact ⟨rfl, rfl⟩)
    · have h := ifF c h
      refine g_aload_n C 13 0 dX5_lowestLimit_12 rfl rfl ?_
      refine g_get (v := .ref (u 1)) C 16 5 0 1 hin_5 rfl rfl (by decide) wf_X5_19 rfl dX5_lowestLimit_13 rfl ?_
      refine g_iload_n C 17 3 dX5_lowestLimit_16 rfl rfl ?_
      refine bnd h (fun x1 e1 h => ?_)
      refine g_callNr C 20 [] [.int x1] (ct_X7_at L (u 1) 12 (S.2 1) v3 x1 e1) kX7_at kvX7_at wn_X5_32 [1] rfl rfl rfl rfl rfl (Nat.le_of_ble_eq_true rfl) ⟨Nat.le_of_ble_eq_true rfl, Nat.le_of_ble_eq_true rfl⟩ ⟨Nat.zero_le _, Nat.zero_le _⟩ dX5_lowestLimit_17 rfl ?_
      refine g_iconst C 21 (1 : Int32) dX5_lowestLimit_20 rfl rfl ?_
      refine g_icmp_ne C 42 24 dX5_lowestLimit_21 (by decide) rfl (fun c => ?_) (fun c => ?_)
      · have h := ifF c h
        exact J_42 _ _ h
      · have h := ifT c h
        refine g_iload_n C 25 2 dX5_lowestLimit_24 rfl rfl ?_
        refine g_aload_n C 26 0 dX5_lowestLimit_25 rfl rfl ?_
        refine g_iload_n C 27 3 dX5_lowestLimit_26 rfl rfl ?_
        refine g_iload_n C 28 1 dX5_lowestLimit_27 rfl rfl ?_
        refine g_aload_n C 29 0 dX5_lowestLimit_28 rfl rfl ?_
        refine g_get (v := .ref t) C 32 5 0 2 hin_5 rfl rfl (by decide) wf_X5_9 rfl dX5_lowestLimit_29 rfl ?_
        refine g_get (v := .int (T.1 3)) C 35 6 2 3 hin_6 rfl rfl (by decide) wf_X5_52 rfl dX5_lowestLimit_32 rfl ?_
        refine bnd h (fun x2 e2 h => ?_)
        refine g_callVr C 38 [.int v2] [.int x2, .int v2] (ct_X5_limitOf L o u t q S T v3 v1 (T.1 3) x2 e2) kX5_limitOf kvX5_limitOf wl_X5_55 5 0 rfl rfl rfl [0, 1, 2, 3, 4, 5, 6, 7, 8] rfl rfl rfl rfl rfl (Nat.le_of_ble_eq_true rfl) ⟨Nat.le_of_ble_eq_true rfl, Nat.le_of_ble_eq_true rfl⟩ ⟨Nat.zero_le _, Nat.zero_le _⟩ dX5_lowestLimit_35 rfl ?_
        refine g_mmax C 41 wm_X5_46 hs_max hi_math hc_max ⟨Nat.le_of_ble_eq_true rfl, Nat.le_of_ble_eq_true rfl⟩ ⟨Nat.le_of_ble_eq_true rfl, Nat.le_of_ble_eq_true rfl⟩ dX5_lowestLimit_38 rfl ?_
        refine g_istore_n C 42 2 [(2, .int (maxI v2 x2)), (0, .ref o), (1, .int v1), (3, .int v3)] dX5_lowestLimit_41 rfl rfl 4 hNL (by decide) rfl ?_
        refine g_lv (lv' := [(0, .ref o), (1, .int v1), (2, .int (maxI v2 x2)), (3, .int v3)]) [1, 2, 0, 3] rfl ?_
        exact J_42 _ _ h
  unfold f_X5_lowestLimit at h
  refine g_iconst C 1 (0 : Int32) dX5_lowestLimit_0 rfl rfl ?_
  refine g_istore_n C 2 2 [(2, .int (0 : Int32)), (0, .ref o), (1, .int v1)] dX5_lowestLimit_1 rfl rfl 4 hNL (by decide) rfl ?_
  refine g_iconst C 3 (0 : Int32) dX5_lowestLimit_2 rfl rfl ?_
  refine g_istore_n C 4 3 [(3, .int (0 : Int32)), (2, .int (0 : Int32)), (0, .ref o), (1, .int v1)] dX5_lowestLimit_3 rfl rfl 4 hNL (by decide) rfl ?_
  refine g_lv (lv' := [(0, .ref o), (1, .int v1), (2, .int (0 : Int32)), (3, .int (0 : Int32))]) [2, 3, 1, 0] rfl ?_
  exact J_4 _ _ _ _ h
set_option maxHeartbeats 4000000 in
set_option maxRecDepth 100000 in
theorem ct_X5_limitsSo (L : LL) (o : Nat) (u : Nat → Nat) (t : Nat) (q : Nat → Nat) (S : OS) (T : OS) (v1 : Int32) (x : Int32) (h : f_X5_limitsSo S T v1 = some x) : Ct L yX5_limitsSo cX5_limitsSo 2 (some .int) (rmk 5 0 0 118) 0 0 [.ref o, .int v1] (cells5 L o u t q S T) (Pv (some (.int x)) (cells5 L o u t q S T)) := by
  refine g_enter (lv := [(0, .ref o), (1, .int v1)]) kX5_limitsSo rfl rfl (Nat.le_of_ble_eq_true rfl) (fun Γ C E hNL => ?_)
  unfold f_X5_limitsSo at h
  refine g_iconst C 1 (0 : Int32) dX5_limitsSo_0 rfl rfl ?_
  refine g_aload_n C 2 0 dX5_limitsSo_1 rfl rfl ?_
  refine g_iload_n C 3 1 dX5_limitsSo_2 rfl rfl ?_
  refine bnd h (fun x1 e1 h => ?_)
  refine g_callVr C 6 [.int (0 : Int32)] [.int x1, .int (0 : Int32)] (ct_X5_highestLimit L o u t q S T v1 x1 e1) kX5_highestLimit kvX5_highestLimit wl_X5_43 5 0 rfl rfl rfl [0, 1, 2, 3, 4, 5, 6, 7, 8] rfl rfl rfl rfl rfl (Nat.le_of_ble_eq_true rfl) ⟨Nat.le_of_ble_eq_true rfl, Nat.le_of_ble_eq_true rfl⟩ ⟨Nat.zero_le _, Nat.zero_le _⟩ dX5_limitsSo_3 rfl ?_
  refine g_aload_n C 7 0 dX5_limitsSo_6 rfl rfl ?_
  refine g_iload_n C 8 1 dX5_limitsSo_7 rfl rfl ?_
  refine bnd h (fun x2 e2 h => ?_)
  refine g_callVr C 11 [.int x1, .int (0 : Int32)] [.int x2, .int x1, .int (0 : Int32)] (ct_X5_lowestLimit L o u t q S T v1 x2 e2) kX5_lowestLimit kvX5_lowestLimit wl_X5_40 5 0 rfl rfl rfl [0, 1, 2, 3, 4, 5, 6, 7, 8] rfl rfl rfl rfl rfl (Nat.le_of_ble_eq_true rfl) ⟨Nat.le_of_ble_eq_true rfl, Nat.le_of_ble_eq_true rfl⟩ ⟨Nat.zero_le _, Nat.zero_le _⟩ dX5_limitsSo_8 rfl ?_
  refine g_isub C 12 dX5_limitsSo_11 rfl ?_
  refine g_iconst C 13 (1 : Int32) dX5_limitsSo_12 rfl rfl ?_
  refine g_iadd C 14 dX5_limitsSo_13 rfl ?_
  refine g_mmax C 17 wm_X5_46 hs_max hi_math hc_max ⟨Nat.le_of_ble_eq_true rfl, Nat.le_of_ble_eq_true rfl⟩ ⟨Nat.le_of_ble_eq_true rfl, Nat.le_of_ble_eq_true rfl⟩ dX5_limitsSo_14 rfl ?_
  exact g_iret (st := []) C E dX5_limitsSo_17 (by obtain rfl := Option.some.inj h; exact ⟨rfl, rfl⟩)
set_option maxHeartbeats 4000000 in
set_option maxRecDepth 100000 in
theorem ct_X5_leastLimitSo (L : LL) (o : Nat) (u : Nat → Nat) (t : Nat) (q : Nat → Nat) (S : OS) (T : OS) (v1 : Int32) (x : Int32) (h : f_X5_leastLimitSo S T v1 = some x) : Ct L yX5_leastLimitSo cX5_leastLimitSo 2 (some .int) (rmk 6 0 0 139) 0 0 [.ref o, .int v1] (cells5 L o u t q S T) (Pv (some (.int x)) (cells5 L o u t q S T)) := by
  refine g_enter (lv := [(0, .ref o), (1, .int v1)]) kX5_leastLimitSo rfl rfl (Nat.le_of_ble_eq_true rfl) (fun Γ C E hNL => ?_)
  unfold f_X5_leastLimitSo at h
  refine g_aload_n C 1 0 dX5_leastLimitSo_0 rfl rfl ?_
  refine g_iload_n C 2 1 dX5_leastLimitSo_1 rfl rfl ?_
  refine bnd h (fun x1 e1 h => ?_)
  refine g_callVr C 5 [] [.int x1] (ct_X5_limitsSo L o u t q S T v1 x1 e1) kX5_limitsSo kvX5_limitsSo wl_X5_36 5 0 rfl rfl rfl [0, 1, 2, 3, 4, 5, 6, 7, 8] rfl rfl rfl rfl rfl (Nat.le_of_ble_eq_true rfl) ⟨Nat.le_of_ble_eq_true rfl, Nat.le_of_ble_eq_true rfl⟩ ⟨Nat.zero_le _, Nat.zero_le _⟩ dX5_leastLimitSo_2 rfl ?_
  refine g_if_le C 16 8 dX5_leastLimitSo_5 (by decide) rfl (fun c => ?_) (fun c => ?_)
  · have h := ifT c h
    refine g_bipush C 18 (-9 : Int32) dX5_leastLimitSo_16 rfl rfl ?_
    exact g_iret (st := []) C E dX5_leastLimitSo_18 (by obtain rfl := Option.some.inj h; exact ⟨rfl, rfl⟩)
  · have h := ifF c h
    refine g_aload_n C 9 0 dX5_leastLimitSo_8 rfl rfl ?_
    refine g_iload_n C 10 1 dX5_leastLimitSo_9 rfl rfl ?_
    refine bnd h (fun x2 e2 h => ?_)
    refine g_callVr C 13 [] [.int x2] (ct_X5_lowestLimit L o u t q S T v1 x2 e2) kX5_lowestLimit kvX5_lowestLimit wl_X5_40 5 0 rfl rfl rfl [0, 1, 2, 3, 4, 5, 6, 7, 8] rfl rfl rfl rfl rfl (Nat.le_of_ble_eq_true rfl) ⟨Nat.le_of_ble_eq_true rfl, Nat.le_of_ble_eq_true rfl⟩ ⟨Nat.zero_le _, Nat.zero_le _⟩ dX5_leastLimitSo_10 rfl ?_
    refine g_goto C 18 dX5_leastLimitSo_13 (by decide) ?_
    exact g_iret (st := []) C E dX5_leastLimitSo_18 (by obtain rfl := Option.some.inj h; exact ⟨rfl, rfl⟩)
set_option maxHeartbeats 4000000 in
set_option maxRecDepth 100000 in
theorem ct_X5_isSoAt (L : LL) (o : Nat) (u : Nat → Nat) (t : Nat) (q : Nat → Nat) (S : OS) (T : OS) (v1 : Int32) (v2 : Int32) (x : Int32) (h : f_X5_isSoAt S T v1 v2 = some x) : Ct L yX5_isSoAt cX5_isSoAt 5 (some .boolean) (rmk 4 0 0 95) 0 0 [.ref o, .int v1, .int v2] (cells5 L o u t q S T) (Pv (some (.int x)) (cells5 L o u t q S T)) := by
  refine g_enter (lv := [(0, .ref o), (1, .int v1), (2, .int v2)]) kX5_isSoAt rfl rfl (Nat.le_of_ble_eq_true rfl) (fun Γ C E hNL => ?_)
  have J_2 : ∀ (n : Nat) (v1 : Int32) (v2 : Int32) (v3 : Int32), Lp1 (b_X5_isSoAt_2 S T  v1 v2) n v3 = some x → G L Γ 0 0 (cells5 L o u t q S T) 2 [(0, .ref o), (1, .int v1), (2, .int v2), (3, .int v3)] [] := by
    intro n v1 v2
    refine lp_ok1 (fun v3 => G L Γ 0 0 (cells5 L o u t q S T) 2 [(0, .ref o), (1, .int v1), (2, .int v2), (3, .int v3)] []) (fun k_2 hk_2 => ?_) n
    have J_52 : ∀ (v3 : Int32), j_X5_isSoAt_52 S T k_2 v1 v2 v3 = some x → G L Γ 0 0 (cells5 L o u t q S T) 52 [(0, .ref o), (1, .int v1), (2, .int v2), (3, .int v3)] [] := by
      intro v3 h
      unfold j_X5_isSoAt_52 at h
      refine g_iinc C 55 (1 : Int32) 3 [(3, .int (v3 + (1 : Int32))), (0, .ref o), (1, .int v1), (2, .int v2)] dX5_isSoAt_52 rfl rfl 5 hNL (by decide) rfl rfl ?_
      refine g_goto C 2 dX5_isSoAt_55 (by decide) ?_
      refine g_lv (lv' := [(0, .ref o), (1, .int v1), (2, .int v2), (3, .int (v3 + (1 : Int32)))]) [1, 2, 3, 0] rfl ?_
      exact hk_2 _ h
    have J_37 : ∀ (v3 : Int32) (s0 : Int32), j_X5_isSoAt_37 S T k_2 v1 v2 v3 s0 = some x → G L Γ 0 0 (cells5 L o u t q S T) 37 [(0, .ref o), (1, .int v1), (2, .int v2), (3, .int v3)] [.int s0] := by
      intro v3 s0 h
      unfold j_X5_isSoAt_37 at h
      refine g_aload_n C 38 0 dX5_isSoAt_37 rfl rfl ?_
      refine g_get (v := .ref t) C 41 5 0 2 hin_5 rfl rfl (by decide) wf_X5_9 rfl dX5_isSoAt_38 rfl ?_
      refine g_iload_n C 42 3 dX5_isSoAt_41 rfl rfl ?_
      refine g_iload_n C 43 1 dX5_isSoAt_42 rfl rfl ?_
      refine g_iload_n C 44 2 dX5_isSoAt_43 rfl rfl ?_
      refine bnd h (fun x2 e2 h => ?_)
      refine g_callVr C 47 [.int s0] [.int x2, .int s0] (ct_X6_passes L t q T v3 v1 v2 x2 e2) kX6_passes kvX6_passes wl_X5_76 6 0 rfl rfl rfl [2, 3, 4, 5, 6, 7, 8] rfl rfl rfl rfl rfl (Nat.le_of_ble_eq_true rfl) ⟨Nat.le_of_ble_eq_true rfl, Nat.le_of_ble_eq_true rfl⟩ ⟨Nat.zero_le _, Nat.zero_le _⟩ dX5_isSoAt_44 rfl ?_
      refine g_icmp_eq C 52 50 dX5_isSoAt_47 (by decide) rfl (fun c => ?_) (fun c => ?_)
      · have h := ifT c h
        exact J_52 _ h
      · have h := ifF c h
        refine g_iconst C 51 (0 : Int32) dX5_isSoAt_50 rfl rfl ?_
        exact g_zret (st := []) C E dX5_isSoAt_51 rfl (by obtain rfl := Option.some.inj h; exact ⟨rfl, rfl⟩)
    intro v3 h
    unfold b_X5_isSoAt_2 at h
    refine g_iload_n C 3 3 dX5_isSoAt_2 rfl rfl ?_
    refine g_aload_n C 4 0 dX5_isSoAt_3 rfl rfl ?_
    refine g_get (v := .int (S.1 0)) C 7 5 0 0 hin_5 rfl rfl (by decide) wf_X5_15 rfl dX5_isSoAt_4 rfl ?_
    refine g_icmp_ge C 58 10 dX5_isSoAt_7 (by decide) rfl (fun c => ?_) (fun c => ?_)
    · have h := ifT c h
      refine g_iconst C 59 (1 : Int32) dX5_isSoAt_58 rfl rfl ?_
      exact g_zret (st := []) C E dX5_isSoAt_59 rfl (by obtain rfl := Option.some.inj h; exact ⟨rfl, rfl⟩)
    · have h := ifF c h
      refine g_aload_n C 11 0 dX5_isSoAt_10 rfl rfl ?_
      refine g_get (v := .ref (u 1)) C 14 5 0 1 hin_5 rfl rfl (by decide) wf_X5_19 rfl dX5_isSoAt_11 rfl ?_
      refine g_iload_n C 15 3 dX5_isSoAt_14 rfl rfl ?_
      refine bnd h (fun x1 e1 h => ?_)
      refine g_callNr C 18 [] [.int x1] (ct_X7_at L (u 1) 12 (S.2 1) v3 x1 e1) kX7_at kvX7_at wn_X5_32 [1] rfl rfl rfl rfl rfl (Nat.le_of_ble_eq_true rfl) ⟨Nat.le_of_ble_eq_true rfl, Nat.le_of_ble_eq_true rfl⟩ ⟨Nat.zero_le _, Nat.zero_le _⟩ dX5_isSoAt_15 rfl ?_
      refine g_istore C 20 4 [(4, .int x1), (0, .ref o), (1, .int v1), (2, .int v2), (3, .int v3)] dX5_isSoAt_18 rfl 5 hNL (by decide) rfl ?_
      refine g_iload C 22 0 dX5_isSoAt_20 rfl rfl ?_
      refine g_iconst C 23 (2 : Int32) dX5_isSoAt_22 rfl rfl ?_
      refine g_icmp_eq C 52 26 dX5_isSoAt_23 (by decide) rfl (fun c => ?_) (fun c => ?_)
      · have h := ifT c h
        refine g_lv (lv' := [(0, .ref o), (1, .int v1), (2, .int v2), (3, .int v3)]) [1, 2, 3, 4] rfl ?_
        exact J_52 _ h
      · have h := ifF c h
        refine g_iload C 28 0 dX5_isSoAt_26 rfl rfl ?_
        refine g_iconst C 29 (1 : Int32) dX5_isSoAt_28 rfl rfl ?_
        refine g_icmp_ne C 36 32 dX5_isSoAt_29 (by decide) rfl (fun c => ?_) (fun c => ?_)
        · have h := ifF c h
          refine g_iconst C 37 (0 : Int32) dX5_isSoAt_36 rfl rfl ?_
          refine g_lv (lv' := [(0, .ref o), (1, .int v1), (2, .int v2), (3, .int v3)]) [1, 2, 3, 4] rfl ?_
          exact J_37 _ _ h
        · have h := ifT c h
          refine g_iconst C 33 (1 : Int32) dX5_isSoAt_32 rfl rfl ?_
          refine g_goto C 37 dX5_isSoAt_33 (by decide) ?_
          refine g_lv (lv' := [(0, .ref o), (1, .int v1), (2, .int v2), (3, .int v3)]) [1, 2, 3, 4] rfl ?_
          exact J_37 _ _ h
  unfold f_X5_isSoAt at h
  refine g_iconst C 1 (0 : Int32) dX5_isSoAt_0 rfl rfl ?_
  refine g_istore_n C 2 3 [(3, .int (0 : Int32)), (0, .ref o), (1, .int v1), (2, .int v2)] dX5_isSoAt_1 rfl rfl 5 hNL (by decide) rfl ?_
  refine g_lv (lv' := [(0, .ref o), (1, .int v1), (2, .int v2), (3, .int (0 : Int32))]) [1, 2, 3, 0] rfl ?_
  exact J_2 _ _ _ _ h
set_option maxHeartbeats 4000000 in
set_option maxRecDepth 100000 in
theorem ct_X5_hoursSo (L : LL) (o : Nat) (u : Nat → Nat) (t : Nat) (q : Nat → Nat) (S : OS) (T : OS) (v1 : Int32) (x : Int32) (h : f_X5_hoursSo S T v1 = some x) : Ct L yX5_hoursSo cX5_hoursSo 4 (some .int) (rmk 5 0 0 119) 0 0 [.ref o, .int v1] (cells5 L o u t q S T) (Pv (some (.int x)) (cells5 L o u t q S T)) := by
  refine g_enter (lv := [(0, .ref o), (1, .int v1)]) kX5_hoursSo rfl rfl (Nat.le_of_ble_eq_true rfl) (fun Γ C E hNL => ?_)
  have J_4 : ∀ (n : Nat) (v1 : Int32) (v2 : Int32) (v3 : Int32), Lp2 (b_X5_hoursSo_4 S T  v1) n v2 v3 = some x → G L Γ 0 0 (cells5 L o u t q S T) 4 [(0, .ref o), (1, .int v1), (2, .int v2), (3, .int v3)] [] := by
    intro n v1
    refine lp_ok2 (fun v2 v3 => G L Γ 0 0 (cells5 L o u t q S T) 4 [(0, .ref o), (1, .int v1), (2, .int v2), (3, .int v3)] []) (fun k_4 hk_4 => ?_) n
    have J_25 : ∀ (v2 : Int32) (v3 : Int32), j_X5_hoursSo_25 S T k_4 v1 v2 v3 = some x → G L Γ 0 0 (cells5 L o u t q S T) 25 [(0, .ref o), (1, .int v1), (2, .int v2), (3, .int v3)] [] := by
      intro v2 v3 h
      unfold j_X5_hoursSo_25 at h
      refine g_iinc C 28 (1 : Int32) 3 [(3, .int (v3 + (1 : Int32))), (0, .ref o), (1, .int v1), (2, .int v2)] dX5_hoursSo_25 rfl rfl 4 hNL (by decide) rfl rfl ?_
      refine g_goto C 4 dX5_hoursSo_28 (by decide) ?_
      refine g_lv (lv' := [(0, .ref o), (1, .int v1), (2, .int v2), (3, .int (v3 + (1 : Int32)))]) [1, 2, 3, 0] rfl ?_
      exact hk_4 _ _ h
    intro v2 v3 h
    unfold b_X5_hoursSo_4 at h
    refine g_iload_n C 5 3 dX5_hoursSo_4 rfl rfl ?_
    refine g_bipush C 7 (24 : Int32) dX5_hoursSo_5 rfl rfl ?_
    refine g_icmp_ge C 31 10 dX5_hoursSo_7 (by decide) rfl (fun c => ?_) (fun c => ?_)
    · have h := ifT c h
      refine g_iload_n C 32 2 dX5_hoursSo_31 rfl rfl ?_
      exact g_iret (st := []) C E dX5_hoursSo_32 (by obtain rfl := Option.some.inj h; exact ⟨rfl, rfl⟩)
    · have h := ifF c h
      refine g_aload_n C 11 0 dX5_hoursSo_10 rfl rfl ?_
      refine g_iload_n C 12 1 dX5_hoursSo_11 rfl rfl ?_
      refine g_iload_n C 13 3 dX5_hoursSo_12 rfl rfl ?_
      refine bnd h (fun x1 e1 h => ?_)
      refine g_callVr C 16 [] [.int x1] (ct_X5_isSoAt L o u t q S T v1 v3 x1 e1) kX5_isSoAt kvX5_isSoAt wl_X5_72 5 0 rfl rfl rfl [0, 1, 2, 3, 4, 5, 6, 7, 8] rfl rfl rfl rfl rfl (Nat.le_of_ble_eq_true rfl) ⟨Nat.le_of_ble_eq_true rfl, Nat.le_of_ble_eq_true rfl⟩ ⟨Nat.zero_le _, Nat.zero_le _⟩ dX5_hoursSo_13 rfl ?_
      refine g_if_eq C 25 19 dX5_hoursSo_16 (by decide) rfl (fun c => ?_) (fun c => ?_)
      · have h := ifT c h
        exact J_25 _ _ h
      · have h := ifF c h
        refine g_iload_n C 20 2 dX5_hoursSo_19 rfl rfl ?_
        refine g_iconst C 21 (1 : Int32) dX5_hoursSo_20 rfl rfl ?_
        refine g_iload_n C 22 3 dX5_hoursSo_21 rfl rfl ?_
        refine g_ishl C 23 dX5_hoursSo_22 rfl ?_
        refine g_ior C 24 dX5_hoursSo_23 rfl ?_
        refine g_istore_n C 25 2 [(2, .int (v2 ||| ((1 : Int32) <<< (v3 &&& 31)))), (0, .ref o), (1, .int v1), (3, .int v3)] dX5_hoursSo_24 rfl rfl 4 hNL (by decide) rfl ?_
        refine g_lv (lv' := [(0, .ref o), (1, .int v1), (2, .int (v2 ||| ((1 : Int32) <<< (v3 &&& 31)))), (3, .int v3)]) [1, 2, 0, 3] rfl ?_
        exact J_25 _ _ h
  unfold f_X5_hoursSo at h
  refine g_iconst C 1 (0 : Int32) dX5_hoursSo_0 rfl rfl ?_
  refine g_istore_n C 2 2 [(2, .int (0 : Int32)), (0, .ref o), (1, .int v1)] dX5_hoursSo_1 rfl rfl 4 hNL (by decide) rfl ?_
  refine g_iconst C 3 (0 : Int32) dX5_hoursSo_2 rfl rfl ?_
  refine g_istore_n C 4 3 [(3, .int (0 : Int32)), (2, .int (0 : Int32)), (0, .ref o), (1, .int v1)] dX5_hoursSo_3 rfl rfl 4 hNL (by decide) rfl ?_
  refine g_lv (lv' := [(0, .ref o), (1, .int v1), (2, .int (0 : Int32)), (3, .int (0 : Int32))]) [2, 3, 1, 0] rfl ?_
  exact J_4 _ _ _ _ h
set_option maxHeartbeats 4000000 in
set_option maxRecDepth 100000 in
theorem ct_X5_firstNotSo (L : LL) (o : Nat) (u : Nat → Nat) (t : Nat) (q : Nat → Nat) (S : OS) (T : OS) (v1 : Int32) (x : Int32) (h : f_X5_firstNotSo S T v1 = some x) : Ct L yX5_firstNotSo cX5_firstNotSo 3 (some .int) (rmk 3 0 0 68) 0 0 [.ref o, .int v1] (cells5 L o u t q S T) (Pv (some (.int x)) (cells5 L o u t q S T)) := by
  refine g_enter (lv := [(0, .ref o), (1, .int v1)]) kX5_firstNotSo rfl rfl (Nat.le_of_ble_eq_true rfl) (fun Γ C E hNL => ?_)
  have J_2 : ∀ (n : Nat) (v1 : Int32) (v2 : Int32), Lp1 (b_X5_firstNotSo_2 S T  v1) n v2 = some x → G L Γ 0 0 (cells5 L o u t q S T) 2 [(0, .ref o), (1, .int v1), (2, .int v2)] [] := by
    intro n v1
    refine lp_ok1 (fun v2 => G L Γ 0 0 (cells5 L o u t q S T) 2 [(0, .ref o), (1, .int v1), (2, .int v2)] []) (fun k_2 hk_2 => ?_) n
    intro v2 h
    unfold b_X5_firstNotSo_2 at h
    refine g_iload_n C 3 2 dX5_firstNotSo_2 rfl rfl ?_
    refine g_aload_n C 4 0 dX5_firstNotSo_3 rfl rfl ?_
    refine g_get (v := .int (S.1 0)) C 7 5 0 0 hin_5 rfl rfl (by decide) wf_X5_15 rfl dX5_firstNotSo_4 rfl ?_
    refine g_icmp_ge C 56 10 dX5_firstNotSo_7 (by decide) rfl (fun c => ?_) (fun c => ?_)
    · have h := ifT c h
      refine g_bipush C 58 (-9 : Int32) dX5_firstNotSo_56 rfl rfl ?_
      exact g_iret (st := []) C E dX5_firstNotSo_58 (by obtain rfl := Option.some.inj h; exact ⟨rfl, rfl⟩)
    · have h := ifF c h
      refine g_aload_n C 11 0 dX5_firstNotSo_10 rfl rfl ?_
      refine g_get (v := .ref t) C 14 5 0 2 hin_5 rfl rfl (by decide) wf_X5_9 rfl dX5_firstNotSo_11 rfl ?_
      refine g_iload_n C 15 2 dX5_firstNotSo_14 rfl rfl ?_
      refine bnd h (fun x1 e1 h => ?_)
      refine g_callVr C 18 [] [.int x1] (ct_X6_hasStreet L t q T v2 x1 e1) kX6_hasStreet kvX6_hasStreet wl_X5_80 6 0 rfl rfl rfl [2, 3, 4, 5, 6, 7, 8] rfl rfl rfl rfl rfl (Nat.le_of_ble_eq_true rfl) ⟨Nat.le_of_ble_eq_true rfl, Nat.le_of_ble_eq_true rfl⟩ ⟨Nat.zero_le _, Nat.zero_le _⟩ dX5_firstNotSo_15 rfl ?_
      refine g_if_eq C 48 21 dX5_firstNotSo_18 (by decide) rfl (fun c => ?_) (fun c => ?_)
      · have h := ifT c h
        refine g_iload_n C 49 2 dX5_firstNotSo_48 rfl rfl ?_
        exact g_iret (st := []) C E dX5_firstNotSo_49 (by obtain rfl := Option.some.inj h; exact ⟨rfl, rfl⟩)
      · have h := ifF c h
        refine g_aload_n C 22 0 dX5_firstNotSo_21 rfl rfl ?_
        refine g_get (v := .ref t) C 25 5 0 2 hin_5 rfl rfl (by decide) wf_X5_9 rfl dX5_firstNotSo_22 rfl ?_
        refine g_iload_n C 26 1 dX5_firstNotSo_25 rfl rfl ?_
        refine g_iload_n C 27 2 dX5_firstNotSo_26 rfl rfl ?_
        refine g_aload_n C 28 0 dX5_firstNotSo_27 rfl rfl ?_
        refine g_get (v := .ref t) C 31 5 0 2 hin_5 rfl rfl (by decide) wf_X5_9 rfl dX5_firstNotSo_28 rfl ?_
        refine g_get (v := .int (T.1 3)) C 34 6 2 3 hin_6 rfl rfl (by decide) wf_X5_52 rfl dX5_firstNotSo_31 rfl ?_
        refine bnd h (fun x2 e2 h => ?_)
        refine g_callVr C 37 [] [.int x2] (ct_X6_faultsIn L t q T v1 v2 (T.1 3) x2 e2) kX6_faultsIn kvX6_faultsIn wl_X5_84 6 0 rfl rfl rfl [2, 3, 4, 5, 6, 7, 8] rfl rfl rfl rfl rfl (Nat.le_of_ble_eq_true rfl) ⟨Nat.le_of_ble_eq_true rfl, Nat.le_of_ble_eq_true rfl⟩ ⟨Nat.zero_le _, Nat.zero_le _⟩ dX5_firstNotSo_34 rfl ?_
        refine g_aload_n C 38 0 dX5_firstNotSo_37 rfl rfl ?_
        refine g_get (v := .ref (u 1)) C 41 5 0 1 hin_5 rfl rfl (by decide) wf_X5_19 rfl dX5_firstNotSo_38 rfl ?_
        refine g_iload_n C 42 2 dX5_firstNotSo_41 rfl rfl ?_
        refine bnd h (fun x3 e3 h => ?_)
        refine g_callNr C 45 [.int x2] [.int x3, .int x2] (ct_X7_at L (u 1) 12 (S.2 1) v2 x3 e3) kX7_at kvX7_at wn_X5_32 [1] rfl rfl rfl rfl rfl (Nat.le_of_ble_eq_true rfl) ⟨Nat.le_of_ble_eq_true rfl, Nat.le_of_ble_eq_true rfl⟩ ⟨Nat.zero_le _, Nat.zero_le _⟩ dX5_firstNotSo_42 rfl ?_
        refine g_icmp_eq C 50 48 dX5_firstNotSo_45 (by decide) rfl (fun c => ?_) (fun c => ?_)
        · have h := ifT c h
          refine g_iinc C 53 (1 : Int32) 2 [(2, .int (v2 + (1 : Int32))), (0, .ref o), (1, .int v1)] dX5_firstNotSo_50 rfl rfl 3 hNL (by decide) rfl rfl ?_
          refine g_goto C 2 dX5_firstNotSo_53 (by decide) ?_
          refine g_lv (lv' := [(0, .ref o), (1, .int v1), (2, .int (v2 + (1 : Int32)))]) [1, 2, 0] rfl ?_
          exact hk_2 _ h
        · have h := ifF c h
          refine g_iload_n C 49 2 dX5_firstNotSo_48 rfl rfl ?_
          exact g_iret (st := []) C E dX5_firstNotSo_49 (by obtain rfl := Option.some.inj h; exact ⟨rfl, rfl⟩)
  unfold f_X5_firstNotSo at h
  refine g_iconst C 1 (0 : Int32) dX5_firstNotSo_0 rfl rfl ?_
  refine g_istore_n C 2 2 [(2, .int (0 : Int32)), (0, .ref o), (1, .int v1)] dX5_firstNotSo_1 rfl rfl 3 hNL (by decide) rfl ?_
  refine g_lv (lv' := [(0, .ref o), (1, .int v1), (2, .int (0 : Int32))]) [1, 2, 0] rfl ?_
  exact J_2 _ _ _ h
