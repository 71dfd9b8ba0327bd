/-! THE LAW: its start -/
theorem TR_0 : TR V0 (Z0 1) := ⟨by decide +kernel, fun i h6 _ k _ => by
  have e : V0 i k = 0 := by unfold V0; rw [if_neg (by omega), if_neg (by omega)]
  rw [e]; rfl⟩
theorem MR_0 : MR V0 M0 := ⟨by decide +kernel, fun i h6 _ k _ => by
  have e : V0 i k = 0 := by unfold V0; rw [if_neg (by omega), if_neg (by omega)]
  rw [e]; rfl⟩
theorem Rel_start : Rel Z0 M0 := Rel_0 TR_0 MR_0 (fun _ _ => rfl) rfl rfl rfl rfl rfl rfl rfl rfl rfl
theorem arr_known {args : Array Value} {s : State} (h : (Cond.arrayClass .int).before args s = true) : ∃ cA : ClassId, ArrOfT s cA .int ∧ va_RA s cA .int := by
  obtain ⟨cA, kA, comp, h1, h2, h3⟩ := Cond.arrayClass_spec h
  exact ⟨cA, fun n z => ⟨fun k h => (by cases h), kA, h2, comp, h3⟩, h1⟩
theorem cls_known {args : Array Value} {s : State} (hts : ∀ w ∈ GW, w.before args s = true) : ∀ k : Nat, ∃ (c : ClassId) (i : Nat → Nat), ∀ q : vw_C, vwCl[k]? = some q → u_Kn s q.1 q.2.1 q.2.2 c i := by
  intro k
  match k with
  | 0 => obtain ⟨c, i, h⟩ := u_known hts hin_0 (hts _ wb_0); exact ⟨c, i, fun q hq => by cases hq; exact h⟩
  | 1 => obtain ⟨c, i, h⟩ := u_known hts hin_1 (hts _ wb_1); exact ⟨c, i, fun q hq => by cases hq; exact h⟩
  | 2 => obtain ⟨c, i, h⟩ := u_known hts hin_2 (hts _ wb_2); exact ⟨c, i, fun q hq => by cases hq; exact h⟩
  | 3 => obtain ⟨c, i, h⟩ := u_known hts hin_3 (hts _ wb_3); exact ⟨c, i, fun q hq => by cases hq; exact h⟩
  | 4 => obtain ⟨c, i, h⟩ := u_known hts hin_4 (hts _ wb_4); exact ⟨c, i, fun q hq => by cases hq; exact h⟩
  | 5 => obtain ⟨c, i, h⟩ := u_known hts hin_5 (hts _ wb_5); exact ⟨c, i, fun q hq => by cases hq; exact h⟩
  | 6 => obtain ⟨c, i, h⟩ := u_known hts hin_6 (hts _ wb_6); exact ⟨c, i, fun q hq => by cases hq; exact h⟩
  | 7 => obtain ⟨c, i, h⟩ := u_known hts hin_7 (hts _ wb_7); exact ⟨c, i, fun q hq => by cases hq; exact h⟩
  | 8 => obtain ⟨c, i, h⟩ := u_known hts hin_8 (hts _ wb_8); exact ⟨c, i, fun q hq => by cases hq; exact h⟩
  | k + 9 => exact ⟨0, fun _ => 0, fun q hq => by simp [vwCl] at hq⟩
set_option maxHeartbeats 4000000 in
set_option maxRecDepth 100000 in
theorem lw_start {L : LL} {Γ : GC} {b N : Nat} {xs : Nat → Int32} (C : Cx L Γ cL_law RL (rmk 12 48 1334 478)) (X : Xs Γ b N xs) (hNL : gNL Γ = 4) (hN : N ≤ 2560) (E : ∀ (w : va_W) (lv : List (Nat × Value)), G L Γ 48 1334 w 1598 lv []) : G L Γ 0 0 [] 0 [(0, .ref b)] [] := by
  refine g_new C 3 7 [.null, .null, .null, .null, .null, .null, .null, .null, .null, .null, .int 0] hin_7 tyX7 tyX7_ok rfl wn_new_L_7 wb_7 ws_7 df_7 ⟨Nat.le_of_ble_eq_true rfl, Nat.le_of_ble_eq_true rfl⟩ dL_law_0 rfl (fun p0 => ?_)
  refine g_w (w' := [(p0, .inr (7, [.null, .null, .null, .null, .null, .null, .null, .null, .null, .null, .int 0]))]) rfl ?_
  refine g_dup C 4 dL_law_3 rfl rfl ?_
  refine g_callI (wr := []) (P := iP L 7 p0 0) C 7 [.ref p0] (ct_X7_init L p0) kX7_init rfl wi_X7_init wl_L_9 [0] [] rfl rfl rfl rfl (by decide) rfl rfl (Nat.le_of_ble_eq_true rfl) ⟨Nat.le_of_ble_eq_true rfl, Nat.le_of_ble_eq_true rfl⟩ ⟨Nat.le_of_ble_eq_true rfl, Nat.le_of_ble_eq_true rfl⟩ dL_law_4 rfl (fun w4 h4 => ?_)
  obtain ⟨o, q, rfl, rfl⟩ := h4
  refine g_w (w' := cells7 L o q Z0) rfl ?_
  refine g_astore_n C 8 1 [(1, .ref (o 0)), (0, .ref b)] dL_law_7 rfl rfl 4 hNL (by decide) rfl ?_
  refine g_new C 11 8 [.null, .null, .null, .null, .null, .null, .null, .int 0, .int 0, .int 0, .int 0, .int 0, .int 0, .null, .null, .null, .null, .int 0, .int 0, .int 0, .null, .int 0, .int 0, .int 0, .int 0, .null, .int 0, .null, .int 0] hin_8 tyX8 tyX8_ok rfl wn_new_L_10 wb_8 ws_8 df_8 ⟨Nat.le_of_ble_eq_true rfl, Nat.le_of_ble_eq_true rfl⟩ dL_law_8 rfl (fun p8 => ?_)
  refine g_dup C 12 dL_law_11 rfl rfl ?_
  refine g_callI (wr := cells7 L o q Z0) (P := iP L 8 p8 0) C 15 [.ref p8] (ct_X8_init L p8) kX8_init rfl wi_X8_init wl_L_12 [33] [0, 1, 2, 3, 4, 5, 6, 7, 8, 9, 10, 11, 12, 13, 14, 15, 16, 17, 18, 19, 20, 21, 22, 23, 24, 25, 26, 27, 28, 29, 30, 31, 32] rfl rfl rfl rfl (by decide) rfl rfl (Nat.le_of_ble_eq_true rfl) ⟨Nat.le_of_ble_eq_true rfl, Nat.le_of_ble_eq_true rfl⟩ ⟨Nat.le_of_ble_eq_true rfl, Nat.le_of_ble_eq_true rfl⟩ dL_law_12 rfl (fun w12 h12 => ?_)
  obtain ⟨u, rfl⟩ := h12
  refine g_astore_n C 16 2 [(2, .ref p8), (1, .ref (o 0)), (0, .ref b)] dL_law_15 rfl rfl 4 hNL (by decide) rfl ?_
  refine g_iconst C 17 (0 : Int32) dL_law_16 rfl rfl ?_
  refine g_istore_n C 18 3 [(3, .int 0), (2, .ref p8), (1, .ref (o 0)), (0, .ref b)] dL_law_17 rfl rfl 4 hNL (by decide) rfl ?_
  refine g_lv (lv' := [(3, .int 0), (0, .ref b), (1, .ref (o 0)), (2, .ref p8)]) [0, 3, 2, 1] rfl ?_
  exact lw_loop C X hNL hN (fun _ _ lv => E _ lv) (N + 5) 0 0 Z0 M0 rfl (by omega) (by omega) Rel_start
