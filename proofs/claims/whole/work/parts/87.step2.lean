/-! PURE: one statement, both sides, on -/
theorem st_street {V : Nat → Nat → Nat} {T S : OS} (hT : TR V T) (hM : MR V S) (hB : WB V) (hL : WL V) {k f m : Nat} (hk : k ≤ 9) (hf : f ≤ 9) (hm : m ≤ 9) : StepE V S (f_X6_addStreet T (nI k) (nI f) (nI m)) (if (5 : Int32) < nI k then some ((0 : Int32), S) else if nI m = 0 then some ((0 : Int32), S) else if S.1 7 = (8 : Int32) then some ((0 : Int32), S) else (f_X8_addsStreet S (nI k) (nI f) (nI m)).bind fun x2 => some ((1 : Int32), x2)) := by
  have h8 := hB.1
  rw [show S.1 7 = nI (V 0 0) from hM.1 0 (by decide)]
  by_cases c1 : 5 < k
  · left
    rw [if_pos (show (5 : Int32) < nI k from nI_lt (a := 5) c1 (by omega))]
    exact ⟨-2, T, S, by unfold f_X6_addStreet; rw [if_neg (nI_pos (by omega)), if_neg (show ¬ nI k < (6 : Int32) from nI_nlt (b := 6) (by omega) (by omega))], by decide, rfl, OT_rf⟩
  · rw [if_neg (show ¬ (5 : Int32) < nI k from nI_nlt (a := 5) (by omega) (by decide))]
    have hk6 : nI k < (6 : Int32) := nI_lt (b := 6) (by omega) (by decide)
    by_cases c2 : m = 0
    · left
      rw [if_pos (show nI m = (0 : Int32) by rw [c2]; rfl)]
      exact ⟨-4, T, S, by unfold f_X6_addStreet; rw [if_neg (nI_pos (by omega)), if_pos hk6, if_neg (nI_pos (by omega)), if_neg (by rw [c2]; decide)], by decide, rfl, OT_rf⟩
    · rw [if_neg (nI_ne0 (by omega) (by omega))]
      by_cases c3 : V 0 0 = 8
      · left
        rw [if_pos (show nI (V 0 0) = (8 : Int32) by rw [c3]; rfl)]
        exact ⟨-6, T, S, by unfold f_X6_addStreet; rw [if_neg (nI_pos (by omega)), if_pos hk6, if_neg (nI_pos (by omega)), if_pos (show (1 : Int32) ≤ nI m from nI_le (a := 1) (by omega) (by omega)), if_neg (show ¬ (9 : Int32) < nI f from nI_nlt (a := 9) hf (by decide)), if_neg (show ¬ (9 : Int32) < nI m from nI_nlt (a := 9) hm (by decide)), hT.1 0 (by decide), if_neg (by rw [c3]; decide)], by decide, rfl, OT_rf⟩
      · right
        have h0 : V 0 0 < 8 := by omega
        rw [if_neg (fun q : nI (V 0 0) = (8 : Int32) => c3 ((nI_eq (b := 8) (by omega) (by decide)).mp q)), addS_C hT h0 (by omega) hf (by omega) hm, addS_M hM h0]
        exact ⟨V 0 0, _, _, _, by omega, rfl, rfl, ⟨fun x hx => by rw [su_n (by omega)]; rfl, fun x hx => by rw [su_a, sa_n (by omega), sa_n (by omega), sa_n (by omega)]⟩, vS_TR hT, vS_MR hM, vS_WB hB h0 (by omega) hf hm, vS_WL hL⟩
theorem st_way {V : Nat → Nat → Nat} {T S : OS} (hT : TR V T) (hM : MR V S) (hB : WB V) (hL : WL V) {t : Nat} (ht : t ≤ 999) : StepE V S (f_X6_addWay T (nI t)) (if nI t = 0 then some ((0 : Int32), S) else if (1 : Int32) <<< (S.1 7 &&& 31) ≤ nI t then some ((0 : Int32), S) else if S.1 8 = (6 : Int32) then some ((0 : Int32), S) else if inb (S.1 8) 6 = true then some ((1 : Int32), su (sa S 4 (upd (S.2 4) (S.1 8).toNatClampNeg (nI t))) 8 (S.1 8 + 1)) else none) := by
  have h8 := hB.1
  have h6 := hB.2.1
  have hp8 := p2_8 h8
  have hp0 := Nat.two_pow_pos (V 0 0)
  rw [show S.1 7 = nI (V 0 0) from hM.1 0 (by decide), show S.1 8 = nI (V 1 0) from hM.1 1 (by decide), sh1 _ (by omega)]
  by_cases c1 : t = 0
  · left
    rw [if_pos (show nI t = (0 : Int32) by rw [c1]; rfl)]
    exact ⟨-4, T, S, by unfold f_X6_addWay; rw [if_neg (by rw [c1]; decide)], by decide, rfl, OT_rf⟩
  · have t1 : (1 : Int32) ≤ nI t := nI_le (a := 1) (by omega) (by omega)
    rw [if_neg (nI_ne0 (by omega) (by omega))]
    by_cases c2 : 2 ^ V 0 0 ≤ t
    · left
      rw [if_pos (nI_le c2 (by omega))]
      exact ⟨-6, T, S, by unfold f_X6_addWay; rw [if_pos t1, alls_C hT hB, Option.bind_some, if_pos (nI_lt (by omega) (by omega))], by decide, rfl, OT_rf⟩
    · rw [if_neg (nI_ge (by omega) (by omega))]
      by_cases c3 : V 1 0 = 6
      · left
        rw [if_pos (show nI (V 1 0) = (6 : Int32) by rw [c3]; rfl)]
        exact ⟨-6, T, S, by unfold f_X6_addWay; rw [if_pos t1, alls_C hT hB, Option.bind_some, if_neg (nI_nlt (by omega) (by omega)), hT.1 1 (by decide), if_neg (by rw [c3]; decide)], by decide, rfl, OT_rf⟩
      · right
        have h0 : V 1 0 < 6 := by omega
        rw [if_neg (fun q : nI (V 1 0) = (6 : Int32) => c3 ((nI_eq (b := 6) (by omega) (by decide)).mp q)), addW_C hT hB h0 (by omega) (by omega), if_pos (inb_nI h0 (by decide)), nI_clamp (by omega), nI_1]
        exact ⟨V 1 0, _, _, _, by omega, rfl, rfl, ⟨fun x hx => by rw [su_n (by omega)]; rfl, fun x hx => by rw [su_a, sa_n (by omega)]⟩, vW_TR hT, vW_MR hM, vW_WB hB h0 (by omega) (by omega), hL⟩
theorem st_turn {V : Nat → Nat → Nat} {T S : OS} (hT : TR V T) (hM : MR V S) (hB : WB V) (hL : WL V) (v1 v2 : Int32) : StepE V S (f_X6_turnKnown T v1 v2) (f_X8_comesOne S 107 v1 v2) := by
  have h5 := hB.2.2.1
  have h8 := hB.1
  unfold f_X6_turnKnown f_X8_comesOne j_X8_comesOne_35
  rcases lrn hT hM hB v1 with ⟨l, hl, rfl, e1, e2⟩ | ⟨e1, e2⟩
  · have hl5 : l < 5 := by omega
    rw [e1, e2, Option.bind_some, Option.bind_some, if_neg n10, if_neg n10]
    rcases sts hT hM hB v2 with ⟨s, hs, rfl, e3, e4⟩ | ⟨e3, e4⟩
    · right
      have hkn := (hL.2.2.2 l hl5).2
      have hx : V 11 l ^^^ 2 ^ s < 2 ^ V 0 0 := Nat.xor_lt_two_pow hkn (Nat.pow_lt_pow_right (by decide) hs)
      have hx31 : V 11 l ^^^ 2 ^ s < 2 ^ 31 := Nat.lt_of_lt_of_le hx (Nat.pow_le_pow_right (by decide) (by omega))
      rw [e3, e4]
      simp only [Option.bind_some, n10, ↓reduceIte, inb_nI hl5 (show 5 < 2 ^ 31 by decide), nI_clamp (show l < 2 ^ 31 by omega), at_in hl5 (show 5 < 2 ^ 31 by decide), hT.2 11 (by decide) (by decide) l hl5, show S.2 6 l = nI (V 11 l) from hM.2 11 (by decide) (by decide) l hl5, sh1 s (by omega), xor_nI, store_in hl5 (show 5 < 2 ^ 31 by decide), has_C hx31 (show s < 31 by omega), if_bI]
      refine ⟨if (V 11 l ^^^ 2 ^ s).testBit s = true then 1 else 0, _, _, _, by split <;> decide, ?_, rfl, kn_O, kn_T hT, kn_M hM, kn_WB hB, kn_WL hL hx⟩
      split <;> rfl
    · left
      rw [e3, e4]
      exact ⟨-1, T, S, rfl, by decide, rfl, OT_rf⟩
  · left
    rw [e1, e2]
    exact ⟨-1, T, S, rfl, by decide, rfl, OT_rf⟩
theorem st_test {V : Nat → Nat → Nat} {T S : OS} (hT : TR V T) (hM : MR V S) (hB : WB V) (hL : WL V) (v1 v2 : Int32) : StepE V S (f_X6_test T v1 v2) (f_X8_comesOne S 116 v1 v2) := by
  have h5 := hB.2.2.1
  unfold f_X6_test f_X8_comesOne j_X8_comesOne_35 j_X6_test_36
  have n7 : ¬ (116 : Int32) = 107 := by decide
  rcases lrn hT hM hB v1 with ⟨l, hl, rfl, e1, e2⟩ | ⟨e1, e2⟩
  · have hl5 : l < 5 := by omega
    rw [e1, e2, Option.bind_some, Option.bind_some, if_neg n10, if_neg n10]
    rcases wys hT hM hB v2 with ⟨w, hw, rfl, e3, e4⟩ | ⟨e3, e4⟩
    · right
      have hth := hB.2.2.2.2 w hw
      have hkn := (hL.2.2.2 l hl5).2
      have hw6 := hB.2.1
      have hx : V 11 l ||| V 9 w < 2 ^ V 0 0 := Nat.or_lt_two_pow hkn hth.2
      rw [e3, e4]
      simp only [Option.bind_some, n10, n7, ↓reduceIte, inb_nI hl5 (show 5 < 2 ^ 31 by decide), nI_clamp (show l < 2 ^ 31 by omega), ibw hB hw, thM hM hB hw, at_in hl5 (show 5 < 2 ^ 31 by decide), way_C hT hB hw, hT.2 11 (by decide) (by decide) l hl5, show S.2 6 l = nI (V 11 l) from hM.2 11 (by decide) (by decide) l hl5, or_nI, store_in hl5 (show 5 < 2 ^ 31 by decide)]
      rw [hT.1 3 (by decide), pa_C hT hB hL hl5 hw hL.1, Option.bind_some, if_bI]
      refine ⟨if paB V (V 9 w) (V 10 l) (V 11 l) (V 3 0) (V 4 0) = true then 1 else 0, _, _, _, by split <;> decide, ?_, rfl, kn_O, kn_T hT, kn_M hM, kn_WB hB, kn_WL hL hx⟩
      split <;> rfl
    · left
      rw [e3, e4]
      exact ⟨-1, T, S, rfl, by decide, rfl, OT_rf⟩
  · left
    rw [e1, e2]
    exact ⟨-1, T, S, rfl, by decide, rfl, OT_rf⟩
