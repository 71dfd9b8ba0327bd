/-! PURE: one statement, both sides -/
theorem at_tot {N : Nat} {f : Nat → Int32} {v : Int32} (hN : N < 2 ^ 31) : ∃ y, f_X7_at N f v = some y := by
  unfold f_X7_at
  by_cases c1 : v < 0
  · rw [if_pos c1]; exact ⟨_, rfl⟩
  · obtain ⟨j, hj, rfl⟩ := nI_of c1
    rw [if_neg c1]
    by_cases c2 : N ≤ j
    · rw [if_pos (nI_le c2 hj)]; exact ⟨_, rfl⟩
    · rw [if_neg (nI_ge (by omega) hN), if_pos (inb_nI (by omega : j < N) hN)]; exact ⟨_, rfl⟩
def StepE (V : Nat → Nat → Nat) (S : OS) (a : Option (Int32 × OS)) (b : Option (Int32 × OS)) : Prop := (∃ x T' S', a = some (x, T') ∧ ¬ 0 ≤ x ∧ b = some (0, S') ∧ OT S S') ∨ (∃ r V' T' S', r < 2 ^ 31 ∧ a = some (nI r, T') ∧ b = some (1, S') ∧ OT S S' ∧ TR V' T' ∧ MR V' S' ∧ WB V' ∧ WL V')
theorem OT_rf {S : OS} : OT S S := ⟨fun _ _ => rfl, fun _ _ => rfl⟩
/-- numbers of a statement, as the class takes them -/
theorem dg1 {c : Nat → Nat} {n p i d : Nat} {P : OS} (hP : LT c n P) (h : p + d + 1 < n) (hi : i < d) (hd : ∀ i, i < d → 48 ≤ c (p + 1 + i) ∧ c (p + 1 + i) ≤ 57) : f_X7_at 96 (P.2 1) (nI (p + 1 + i)) = some (nI (c (p + 1 + i))) ∧ nI (c (p + 1 + i)) - (48 : Int32) = nI (c (p + 1 + i) - 48) := by
  obtain ⟨h0, h96, hc⟩ := hP
  have := hc (p + 1 + i) (by omega)
  refine ⟨by rw [at_in (by omega : p + 1 + i < 96) (by decide), this.1], ?_⟩
  exact pk_sub (a := c (p + 1 + i)) (b := 48) (hd i hi).1
theorem st_day {V : Nat → Nat → Nat} {T S : OS} (hT : TR V T) (hM : MR V S) (hB : WB V) (hL : WL V) : StepE V S (f_X6_nextDay T) (if S.1 12 = (999 : Int32) then some ((0 : Int32), S) else (f_X8_goesDay S).bind fun x1 => some ((1 : Int32), x1)) := by
  have hd := hL.2.2.1
  rw [show S.1 12 = nI (V 5 0) from hM.1 5 (by decide)]
  by_cases e : V 5 0 = 999
  · left
    rw [if_pos (show nI (V 5 0) = (999 : Int32) by rw [e]; rfl)]
    exact ⟨-6, T, S, by unfold f_X6_nextDay; rw [hT.1 5 (by decide), if_neg (by rw [e]; decide)], by decide, rfl, OT_rf⟩
  · right
    have h9 : V 5 0 < 999 := by omega
    obtain ⟨T', t0, t1⟩ := nday_C hT hB hL h9
    obtain ⟨S', g0, g1, g2⟩ := gday_M hM hB hL
    rw [if_neg (fun q : nI (V 5 0) = (999 : Int32) => e ((nI_eq (b := 999) (by omega) (by decide)).mp q))]
    exact ⟨V 5 0 + 1, _, T', S', by omega, t0, by rw [g0]; rfl, g2, t1, g1, dayV_WB hB, dayV_WL hL h9⟩
theorem st_hour {V : Nat → Nat → Nat} {T S : OS} (hT : TR V T) (hM : MR V S) (hB : WB V) (hL : WL V) {j : Nat} (hj : j ≤ 99) : StepE V S (f_X6_change T 0 (nI j)) ((f_X8_isHour (nI j)).bind fun x2 => if isB x2 = true then some (x2, su S 10 (nI j)) else none) := by
  obtain ⟨l1, l2, l3, l4⟩ := id hL
  unfold f_X6_change j_X6_change_29 j_X6_change_50
  rw [show f_X7_isEither 0 = some 1 by decide, Option.bind_some, if_neg n10, if_pos (nI_pos' (by omega)), if_pos rfl, if_pos rfl, if_pos rfl]
  unfold f_X8_isHour
  rw [if_neg (nI_pos (by omega))]
  by_cases e : j < 24
  · right
    rw [if_pos (show nI j ≤ (23 : Int32) from nI_le (b := 23) (by omega) (by decide)), if_neg (show ¬ (24 : Int32) ≤ nI j from nI_ge (b := 24) e (by decide)), Option.bind_some]
    exact ⟨V 3 0, _, _, _, by omega, by rw [hT.1 3 (by decide)], rfl, ⟨fun x hx => su_n (by omega), fun _ _ => rfl⟩, TR_su hT (by decide), MR_sui (i := 3) hM (by decide), hB, ⟨e, l2, l3, l4⟩⟩
  · left
    rw [if_neg (show ¬ nI j ≤ (23 : Int32) from nI_ge (a := 23) (by omega) (by omega)), if_pos (show (24 : Int32) ≤ nI j from nI_le (a := 24) (by omega) (by omega)), Option.bind_some]
    exact ⟨-6, T, _, rfl, by decide, rfl, ⟨fun x hx => su_n (by omega), fun _ _ => rfl⟩⟩
theorem st_limit {V : Nat → Nat → Nat} {T S : OS} (hT : TR V T) (hM : MR V S) (hB : WB V) (hL : WL V) {j : Nat} (hj : j ≤ 99) : StepE V S (f_X6_change T 1 (nI j)) (some ((1 : Int32), su S 11 (nI j))) := by
  obtain ⟨l1, l2, l3, l4⟩ := id hL
  right
  unfold f_X6_change j_X6_change_29 j_X6_change_50
  rw [show f_X7_isEither 1 = some 1 by decide, Option.bind_some, if_neg n10, if_pos (nI_pos' (by omega)), if_neg n10, if_neg n10, if_neg n10, if_pos (show nI j ≤ (99 : Int32) from nI_le (b := 99) hj (by decide))]
  exact ⟨V 4 0, _, _, _, by omega, by rw [hT.1 4 (by decide)], rfl, ⟨fun x hx => su_n (by omega), fun _ _ => rfl⟩, TR_su hT (by decide), MR_sui (i := 4) hM (by decide), hB, ⟨l1, hj, l3, l4⟩⟩
theorem st_learner {V : Nat → Nat → Nat} {T S : OS} (hT : TR V T) (hM : MR V S) (hB : WB V) (hL : WL V) {k : Nat} (hk : k ≤ 9) : StepE V S (f_X6_addLearner T (nI k)) (if S.1 9 = (5 : Int32) then some ((0 : Int32), S) else (f_X8_addsLearner S (nI k)).bind fun x1 => some ((1 : Int32), x1)) := by
  have h5 := hB.2.2.1
  rw [show S.1 9 = nI (V 2 0) from hM.1 2 (by decide)]
  by_cases c3 : V 2 0 = 5
  · left
    rw [if_pos (show nI (V 2 0) = (5 : Int32) by rw [c3]; rfl)]
    exact ⟨-6, T, S, by unfold f_X6_addLearner; rw [if_pos (nI_pos' (by omega)), if_neg (show ¬ (9 : Int32) < nI k from nI_nlt (a := 9) hk (by decide)), hT.1 2 (by decide), if_neg (by rw [c3]; decide)], by decide, rfl, OT_rf⟩
  · right
    have h0 : V 2 0 < 5 := by omega
    rw [if_neg (fun q : nI (V 2 0) = (5 : Int32) => c3 ((nI_eq (b := 5) (by omega) (by decide)).mp q)), addL_C hT h0 hk, addL_M hM h0]
    exact ⟨V 2 0, _, _, _, by omega, rfl, rfl, ⟨fun x hx => by rw [su_n (by omega)]; rfl, fun x hx => by rw [su_a, sa_n (by omega), sa_n (by omega)]⟩, vL_TR hT, vL_MR hM, vL_WB hB h0, vL_WL hL hk⟩
