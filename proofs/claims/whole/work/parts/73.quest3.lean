/-! PURE: questions, both sides: the rest, and the row -/
theorem q_rank {Z : Nat → OS} {S : OS} (h : Rel Z S) (v1 v2 : Int32) : Out (f_X7_rank Z v1 v2) (f_X8_rank S v1 v2) := by
  obtain ⟨V, ⟨hT, hM, hB, hL⟩, -⟩ := id h
  unfold f_X7_rank f_X8_rank j_X8_rank_22
  rcases wys hT hM hB v1 with ⟨w, hw, rfl, e1, e2⟩ | ⟨e1, e2⟩
  · rw [e1, e2]
    simp only [Option.bind_some, n10, ↓reduceIte]
    rw [rank_C hT hB hL hw, rank_M hM hB hL hw]
    by_cases c : 0 ≤ v2
    · rw [if_pos c, if_pos c]; exact out_ok h
    · rw [if_neg c, if_neg c]; exact out_no h (by decide) m4
  · rw [e1, e2]
    exact out_no h (by decide) m1
theorem q_rush {Z : Nat → OS} {S : OS} (h : Rel Z S) (v1 v2 : Int32) : Out (f_X7_rush Z v1 v2) (f_X8_rush S v1 v2) := by
  obtain ⟨V, ⟨hT, hM, hB, hL⟩, -⟩ := id h
  unfold f_X7_rush f_X8_rush j_X8_rush_27
  rcases wys hT hM hB v1 with ⟨w, hw, rfl, e1, e2⟩ | ⟨e1, e2⟩
  · rw [e1, e2]
    simp only [Option.bind_some, n10, ↓reduceIte]
    obtain ⟨b, hb⟩ := amo_some (bet := gtF (mpN V w)) (p := fun _ => true) (n := 24) (i := 0) (by decide) rfl
    have hb2 := (amo_ok hb).1
    have hb' : rhN V w = some b := hb
    rw [rush_C hT hB hL hw, Option.bind_some, Option.bind_some, rush_M hM hB hL hw, hb', show ob 0 (some b) = nI b from rfl, many_C hT hB hL hw hb2]
    rcases eit v2 with ⟨rfl, -, e⟩ | ⟨rfl, -, e⟩ | ⟨c0, c1, -, e⟩
    · rw [e]; exact out_ok h
    · rw [e]; exact out_ok h
    · rw [e, if_neg c0, if_neg c1]; exact out_no h (by decide) m2
  · rw [e1, e2]
    exact out_no h (by decide) m1
theorem q_newcomer {Z : Nat → OS} {S : OS} (h : Rel Z S) (v1 : Int32) : Out (f_X7_newcomer Z v1) (f_X8_newcomer S v1) := by
  obtain ⟨V, ⟨hT, hM, hB, hL⟩, -⟩ := id h
  unfold f_X7_newcomer f_X8_newcomer
  rcases bnd3 (lo := 0) (hi := 9) (by decide) (by decide) v1 with ⟨j, -, hj, rfl, b1, b2, b3⟩ | ⟨b1, b2, b3⟩ | ⟨b1, b3⟩
  · rw [show f_X8_bound (nI j) 0 9 = some 0 from b3, if_pos (show (0 : Int32) ≤ nI j from b1), if_pos (show nI j ≤ (9 : Int32) from b2), hT.1 3 (by decide), show (0 : Int32) = nI 0 from rfl, wp_C hT hB hL hL.1 hj (by decide), show nI 0 = (0 : Int32) from rfl]
    simp only [Option.bind_some, ↓reduceIte]
    rw [newc_M hM hB hL hj]
    exact out_ok h
  · rw [show f_X8_bound v1 0 9 = some (-6) from b3, if_pos (show (0 : Int32) ≤ v1 from b1), if_neg (show ¬ v1 ≤ (9 : Int32) from b2)]
    exact out_no h (by decide) m6
  · rw [show f_X8_bound v1 0 9 = some (-4) from b3, if_neg (show ¬ (0 : Int32) ≤ v1 from b1)]
    exact out_no h (by decide) m4
theorem q_gain {Z : Nat → OS} {S : OS} (h : Rel Z S) (v1 v2 : Int32) : Out (f_X7_gain Z v1 v2) (f_X8_gain S v1 v2) := by
  obtain ⟨V, ⟨hT, hM, hB, hL⟩, -⟩ := id h
  have h5 := hB.2.2.1
  have h8 := hB.1
  unfold f_X7_gain f_X8_gain j_X7_gain_10
  rcases lrn hT hM hB v1 with ⟨l, hl, rfl, e1, e2⟩ | ⟨e1, e2⟩
  · have hl5 : l < 5 := by omega
    rw [e1, e2]
    simp only [Option.bind_some, n10, ↓reduceIte]
    by_cases c : v2 = -1
    · rw [if_pos c, if_pos c, c]
      unfold j_X7_gain_43 j_X8_gain_27
      rw [if_neg n10, bless_C hT hB hL hl5, if_pos (by decide), bless_M hM hB hL hl5]
      exact out_ok h
    · rw [if_neg c, if_neg c]
      rcases sts hT hM hB v2 with ⟨s, hs, rfl, e3, e4⟩ | ⟨e3, e4⟩
      · rw [e3, e4]
        simp only [Option.bind_some, n10, ↓reduceIte]
        unfold j_X7_gain_43 j_X8_gain_27
        rw [if_pos rfl, gain_C hT hB hL hl5 hs, if_neg (nI_pos (by omega)), gof_M hM hB hL hl5 hs]
        exact out_ok h
      · rw [e3, e4]
        exact out_no h (by decide) m1
  · rw [e1, e2]
    simp only [Option.bind_some, ↓reduceIte, ite_self]
    exact out_no h (by decide) m1
theorem q_career {Z : Nat → OS} {S : OS} (h : Rel Z S) (v1 v2 : Int32) : Out (f_X7_career Z v1 v2) (f_X8_career S v1 v2) := by
  obtain ⟨V, ⟨hT, hM, hB, hL⟩, -⟩ := id h
  have h5 := hB.2.2.1
  unfold f_X7_career f_X8_career j_X8_career_19
  rcases lrn hT hM hB v1 with ⟨l, hl, rfl, e1, e2⟩ | ⟨e1, e2⟩
  · have hl5 : l < 5 := by omega
    rw [e1, e2]
    simp only [Option.bind_some, n10, ↓reduceIte]
    rcases bnd3 (lo := 0) (hi := 60) (by decide) (by decide) v2 with ⟨j, -, hj, rfl, b1, b2, b3⟩ | ⟨b1, b2, b3⟩ | ⟨b1, b3⟩
    · rw [show f_X8_bound (nI j) 0 60 = some 0 from b3, if_pos (show (0 : Int32) ≤ nI j from b1), if_pos (show nI j ≤ (60 : Int32) from b2), career_C hT hB hL hl5 hj]
      simp only [Option.bind_some, ↓reduceIte]
      rw [inb_t hl5 (by decide), nI_clamp (by omega), show S.2 6 l = nI (V 11 l) from hM.2 11 (by decide) (by decide) l hl5, career_M hM hB hL hl5 hj]
      exact out_ok h
    · rw [show f_X8_bound v2 0 60 = some (-6) from b3, if_pos (show (0 : Int32) ≤ v2 from b1), if_neg (show ¬ v2 ≤ (60 : Int32) from b2)]
      exact out_no h (by decide) m6
    · rw [show f_X8_bound v2 0 60 = some (-4) from b3, if_neg (show ¬ (0 : Int32) ≤ v2 from b1)]
      exact out_no h (by decide) m4
  · rw [e1, e2]
    exact out_no h (by decide) m1
theorem q_toughest {Z : Nat → OS} {S : OS} (h : Rel Z S) (v1 : Int32) : Out (f_X7_toughest Z v1) (f_X8_toughest S v1) := by
  obtain ⟨V, ⟨hT, hM, hB, hL⟩, -⟩ := id h
  unfold f_X7_toughest f_X8_toughest
  rcases wys hT hM hB v1 with ⟨w, hw, rfl, e1, e2⟩ | ⟨e1, e2⟩
  · rw [e1, e2]
    simp only [Option.bind_some, n10, ↓reduceIte]
    rw [hard24_C hT hB hw, tough_M hM hB hw]
    exact out_ok h
  · rw [e1, e2]
    exact out_no h (by decide) m1
theorem q_longest {Z : Nat → OS} {S : OS} (h : Rel Z S) (v1 : Int32) : Out (f_X7_longest Z v1) (f_X8_longest S v1) := by
  obtain ⟨V, ⟨hT, hM, hB, hL⟩, -⟩ := id h
  have h6 := hB.2.1
  unfold f_X7_longest f_X8_longest
  rw [long_C hT hB, long_M hM hB]
  rcases eit v1 with ⟨rfl, e, e'⟩ | ⟨rfl, e, e'⟩ | ⟨c0, c1, e, e'⟩
  · rw [e, e']; exact out_ok h
  · rw [e, e']
    simp only [Option.bind_some, n10, ↓reduceIte]
    cases ho : loN V with
    | none => exact out_ok h
    | some b =>
      have hb := (amo_ok ho).1
      have g2 := WB_th hB hb
      rw [show ob (-9) (some b) = nI b from rfl, if_pos (nI_pos' (by omega)), way_C hT hB hb, Option.bind_some, mo_C hT hB (by omega)]
      exact out_ok h
  · rw [e, e']; exact out_no h (by decide) m2
theorem bs_bit {p : Nat → Bool} {i : Nat} : ∀ {n : Nat}, (bs p n).testBit i = (decide (i < n) && p i)
  | 0 => by simp [bs]
  | n + 1 => by
    rw [bs]
    have ih := bs_bit (p := p) (i := i) (n := n)
    by_cases e : p n = true
    · rw [if_pos e, Nat.testBit_or, ih, Nat.testBit_two_pow]
      by_cases c : n = i
      · subst c; simp [e]
      · have : decide (i < n + 1) = decide (i < n) := by
          by_cases q : i < n
          · rw [decide_eq_true q, decide_eq_true (by omega)]
          · rw [decide_eq_false q, decide_eq_false (by omega)]
        rw [decide_eq_false c, this, Bool.or_false]
    · have e' : p n = false := by simpa using e
      rw [if_neg e, Nat.or_zero, ih]
      by_cases c : i = n
      · subst c; simp [e']
      · have : decide (i < n + 1) = decide (i < n) := by
          by_cases q : i < n
          · rw [decide_eq_true q, decide_eq_true (by omega)]
          · rw [decide_eq_false q, decide_eq_false (by omega)]
        rw [this]
theorem or_cn {V : Nat → Nat → Nat} {s : Nat} : ∀ {n : Nat}, decide (cnB (fun w => (V 9 w).testBit s) n = 0) = !(orN V n).testBit s
  | 0 => by simp [cnB, orN]
  | n + 1 => by
    have ih := or_cn (V := V) (s := s) (n := n)
    rw [cnB, orN, Nat.testBit_or, Bool.not_or, ← ih]
    cases c : (V 9 n).testBit s with
    | true => simp
    | false => simp
theorem free_e {V : Nat → Nat → Nat} (hB : WB V) : nd (2 ^ V 0 0 - 1) (orN V (V 1 0)) = frN V := by
  have h8 := hB.1
  have hp8 := p2_8 h8
  apply Nat.eq_of_testBit_eq
  intro i
  unfold frN wtN
  rw [bs_bit]
  by_cases hi : i < 8
  · rw [nd_bit hi, Nat.testBit_two_pow_sub_one, or_cn]
  · have h1 : nd (2 ^ V 0 0 - 1) (orN V (V 1 0)) < 2 ^ i := Nat.lt_of_lt_of_le (nd_lt (by omega)) (show 2 ^ 8 ≤ 2 ^ i from Nat.pow_le_pow_right (by decide) (by omega))
    rw [Nat.testBit_lt_two_pow h1, decide_eq_false (by omega), Bool.false_and]
theorem q_crowded {Z : Nat → OS} {S : OS} (h : Rel Z S) (v1 : Int32) : Out (f_X7_crowded Z v1) (f_X8_crowded S v1) := by
  obtain ⟨V, ⟨hT, hM, hB, hL⟩, -⟩ := id h
  have h8 := hB.1
  have h6 := hB.2.1
  have hp8 := p2_8 h8
  unfold f_X7_crowded f_X8_crowded
  rw [crow_C hT hB, crow_M hM hB, alls_C hT hB, hT.1 1 (by decide), foll_C hT hB (by omega), Nat.min_self]
  simp only [Option.bind_some]
  rw [nd_nI (by omega), free_e hB]
  rcases whi (n := 2) (by decide) v1 with ⟨j, hj, rfl, e⟩ | ⟨hj, e⟩
  · rw [show f_X8_isIn (nI j) 0 2 = some 1 from e]
    rcases (by omega : j = 0 ∨ j = 1 ∨ j = 2) with q | q | q
    · subst q; exact out_ok h
    · subst q
      simp only [Option.bind_some, n10, ↓reduceIte]
      rw [if_neg (by decide), if_pos (by decide), if_neg (by decide), if_neg (by decide)]
      cases ho : crN V with
      | none =>
        rw [show ob (-9) none = -9 from rfl, thr9_C hT hB]
        exact out_ok h
      | some b =>
        have hb := (amo_ok ho).1
        rw [show ob (-9) (some b) = nI b from rfl, thr_C hT hB (by omega)]
        exact out_ok h
    · subst q; exact out_ok h
  · rw [show f_X8_isIn v1 0 2 = some 0 from e, if_neg (show ¬ v1 = 0 from hj 0 (by decide)), if_neg (show ¬ v1 = 1 from hj 1 (by decide)), if_neg (show ¬ v1 = 2 from hj 2 (by decide))]
    exact out_no h (by decide) m2
theorem q_lots {Z : Nat → OS} {S : OS} (h : Rel Z S) (v1 v2 v3 : Int32) : Out (f_X7_lots Z v1 v2 v3) (f_X8_lots S v1 v2 v3) := by
  obtain ⟨V, ⟨hT, hM, hB, hL⟩, -⟩ := id h
  have no : ∀ x : Int32, ¬ x = 0 → j_X8_lots_27 v1 v2 v3 x S = (f_X8_no S x).bind fun y => some (y.1, y.2) := by
    intro x hx
    unfold j_X8_lots_27
    rw [if_neg hx]
  unfold f_X7_lots f_X8_lots
  rcases bnd3 (lo := 1) (hi := 20) (by decide) (by decide) v1 with ⟨j, -, hj, rfl, b1, b2, b3⟩ | ⟨b1, b2, b3⟩ | ⟨b1, b3⟩
  · rw [show f_X8_bound (nI j) 1 20 = some 0 from b3, if_pos (show (1 : Int32) ≤ nI j from b1), if_pos (show nI j ≤ (20 : Int32) from b2), lots_C hT hB hL hj]
    simp only [Option.bind_some, ↓reduceIte]
    obtain ⟨z', hz⟩ := lots_M (z := v2) (what := v3) hM hB hL hj
    rw [hz, no (-2) (by decide)]
    rcases eit v3 with ⟨rfl, e, e'⟩ | ⟨rfl, e, e'⟩ | ⟨c0, c1, e, e'⟩
    · rw [e, e']
      exact out_ok (Rel_s28 h)
    · rw [e, e']
      exact out_ok (Rel_s28 h)
    · rw [e, e']
      exact out_no h (by decide) m2
  · rw [show f_X8_bound v1 1 20 = some (-6) from b3, if_pos (show (1 : Int32) ≤ v1 from b1), if_neg (show ¬ v1 ≤ (20 : Int32) from b2), Option.bind_some, if_neg (by decide), no _ (by decide)]
    exact out_no h (by decide) m6
  · rw [show f_X8_bound v1 1 20 = some (-4) from b3, if_neg (show ¬ (1 : Int32) ≤ v1 from b1), Option.bind_some, if_neg (by decide), no _ (by decide)]
    exact out_no h (by decide) m4
theorem q_count {Z : Nat → OS} {S : OS} (h : Rel Z S) (v1 : Int32) : OutP (f_X7_count Z v1) (f_X8_count S v1) := by
  obtain ⟨V, ⟨hT, hM, hB, hL⟩, hr, ⟨n, c, -, l1, l2, -⟩, ⟨m, R, r1, -, r2, -⟩, -, ⟨k, p, B, -, -, p1, p2, -⟩⟩ := id h
  have main : ∀ v : Int32, OutP (j_X7_count_24 Z v) (if v = (0 : Int32) then (some (S.1 7)) else (if v = (1 : Int32) then (some (S.1 8)) else (if v = (2 : Int32) then (some (S.1 9)) else (if v = (3 : Int32) then (some (S.1 10)) else (if v = (4 : Int32) then (some (S.1 11)) else (if v = (5 : Int32) then (some (S.1 12)) else (if v = (6 : Int32) then (Lp2 (b_X8_count_112 S  ) FU (0 : Int32) (0 : Int32)) else (if v = (7 : Int32) then (some (S.1 17)) else (if v = (8 : Int32) then (some (S.1 26)) else (if v = (9 : Int32) then (some (S.1 24)) else (some (-9 : Int32)))))))))))) := by
    intro v
    unfold j_X7_count_24
    rw [allk_C hT hB hL, Option.bind_some, allk_M hM hB hL, hT.1 0 (by decide), hT.1 1 (by decide), hT.1 2 (by decide), hT.1 3 (by decide), hT.1 4 (by decide), hT.1 5 (by decide), show S.1 7 = nI (V 0 0) from hM.1 0 (by decide), show S.1 8 = nI (V 1 0) from hM.1 1 (by decide), show S.1 9 = nI (V 2 0) from hM.1 2 (by decide), show S.1 10 = nI (V 3 0) from hM.1 3 (by decide), show S.1 11 = nI (V 4 0) from hM.1 4 (by decide), show S.1 12 = nI (V 5 0) from hM.1 5 (by decide), l1, l2, r1, r2, p1, p2]
    generalize hX : (if v = (0 : Int32) then some (nI (V 0 0)) else _ : Option Int32) = X
    have : ∃ r, X = some r := by
      rw [← hX]
      repeat' split
      all_goals exact ⟨_, rfl⟩
    obtain ⟨r, hr⟩ := this
    exact ⟨r, hr, hr⟩
  unfold f_X7_count f_X8_count f_X8_isIn
  by_cases c1 : v1 < 11
  · rw [if_pos c1, if_pos c1]
    exact main v1
  · rw [if_neg c1, if_neg c1]
    by_cases c2 : 16 < v1
    · rw [if_pos c2, if_pos c2]
      exact main v1
    · rw [if_neg c2, if_neg c2]
      have hv : ¬ v1 < 0 := by
        intro q
        rw [Int32.lt_iff_toInt_lt] at q c1
        have e0 : (0 : Int32).toInt = 0 := by decide
        have e1 : (11 : Int32).toInt = 11 := by decide
        omega
      obtain ⟨j, hj, rfl⟩ := nI_of hv
      have j1 : 11 ≤ j := Nat.le_of_not_lt fun q => c1 (nI_lt (b := 11) q (by decide))
      have j2 : j ≤ 16 := Nat.le_of_not_lt fun q => c2 (nI_lt (a := 16) q hj)
      rw [show nI j - (10 : Int32) = nI (j - 10) from pk_sub (a := j) (b := 10) (by omega), at_in (by omega : j - 10 < 7) (by decide), Option.bind_some, Option.bind_some, if_neg n10, if_pos (inb_nI (by omega : j - 10 < 7) (by decide)), nI_clamp (by omega), hr _ (by omega)]
      exact ⟨_, rfl, rfl⟩
/-! the row -/
theorem Rel_row {Z : Nat → OS} {S : OS} {V : Nat → Nat → Nat} (h : Core V Z S ∧ Refs Z S ∧ Lets Z S ∧ Rows Z S ∧ Imag Z S ∧ Past V Z S) {T : OS} {f : Nat → Int32} {v : Int32} (hn : Rows (upA Z 6 T) (su (sa S 25 f) 26 v)) : Rel (upA Z 6 T) (su (sa S 25 f) 26 v) := by
  obtain ⟨⟨c1, c2, c3, c4⟩, hr, hl, hw, hi, hp⟩ := h
  have zn : ∀ j, j ≠ 6 → upA Z 6 T j = Z j := fun j hj => upA_n hj
  exact ⟨V, ⟨by rw [zn 1 (by decide)]; exact c1, MR_su (MR_sa c2 (by decide)) (by decide), c3, c4⟩, fun j hj => by rw [zn 0 (by decide), su_a, sa_n (by decide)]; exact hr j hj, Lets_cg hl (zn 5 (by decide)) (by rw [su_n (by decide)]; rfl) (by rw [su_a, sa_n (by decide)]), hn, Imag_cg hi (by rw [zn 0 (by decide)]) (zn 2 (by decide)) (by rw [su_n (by decide)]; rfl) (fun _ _ => by rw [su_a, sa_n (by decide)]), Past_cg hp (zn 4 (by decide)) (by rw [su_n (by decide)]; rfl) (by rw [su_a, sa_n (by decide)])⟩
theorem sa_self {S : OS} {k : Nat} : sa S k (S.2 k) = S := by
  obtain ⟨a, b⟩ := S
  show ((a, upA b k (b k)) : OS) = (a, b)
  rw [upA_id]
theorem Rel_row0 {Z : Nat → OS} {S : OS} (h : Rel Z S) : Rel (upA Z 6 (su (Z 6) 0 0)) (su S 26 0) := by
  obtain ⟨V, h⟩ := h
  have := Rel_row h (T := su (Z 6) 0 0) (f := S.2 25) (v := 0) ⟨0, fun _ => 0, by rw [upA_s, su_s]; rfl, ⟨Nat.zero_le _, fun k hk => by omega⟩, by rw [su_s]; rfl, ⟨Nat.zero_le _, fun k hk => by omega⟩⟩
  rw [sa_self] at this
  exact this
theorem q_clear {Z : Nat → OS} {S : OS} (h : Rel Z S) : Out (f_X7_clear Z) (f_X8_clear S) := by
  obtain ⟨V, -, -, -, ⟨m, R, r1, -, r2, -⟩, -⟩ := id h
  unfold f_X7_clear f_X8_clear
  rw [r1, r2]
  exact out_ok (Rel_row0 h)
theorem q_judge {Z : Nat → OS} {S : OS} (h : Rel Z S) (v1 : Int32) : Out (f_X7_judge Z v1) (f_X8_judge S v1) := by
  obtain ⟨V, ⟨hT, hM, hB, hL⟩, -, -, ⟨m, R, r1, r2, r3, r4⟩, -⟩ := id h
  have h5 := hB.2.2.1
  unfold f_X7_judge f_X8_judge
  rcases lrn hT hM hB v1 with ⟨l, hl, rfl, e1, e2⟩ | ⟨e1, e2⟩
  · rw [e1, e2]
    simp only [Option.bind_some, n10, ↓reduceIte]
    rw [judge_C hT hB hL r1 r2 (by omega), r3, judge_M (MR_su hM (by decide)) hB hL r4 (by omega)]
    exact out_ok (Rel_row0 h)
  · rw [e1, e2]
    exact out_no h (by decide) m1
theorem q_row {Z : Nat → OS} {S : OS} (h : Rel Z S) (v1 : Int32) : Out (f_X7_row Z v1) (f_X8_row S v1) := by
  obtain ⟨V, hh⟩ := id h
  obtain ⟨n, R, r1, r2, r3, r4⟩ := hh.2.2.2.1
  have h12 := r2.1
  have no : ∀ x : Int32, ¬ x = 0 → j_X8_row_24 v1 x S = (f_X8_no S x).bind fun y => some (y.1, y.2) := by
    intro x hx
    unfold j_X8_row_24
    rw [if_neg hx]
  have e12 : (S.1 26 = 12) ↔ n = 12 := by rw [r3]; exact nI_eq (b := 12) (by omega) (by decide)
  unfold f_X7_row f_X8_row
  rcases bnd3 (lo := 0) (hi := 99) (by decide) (by decide) v1 with ⟨j, -, hj, rfl, b1, b2, b3⟩ | ⟨b1, b2, b3⟩ | ⟨b1, b3⟩
  · rw [show f_X8_bound (nI j) 0 99 = some 0 from b3, if_pos (show (0 : Int32) ≤ nI j from b1), if_neg (show ¬ (99 : Int32) < nI j from i32_nlt.mpr b2), Option.bind_some, if_pos rfl, r1]
    by_cases c : n = 12
    · rw [if_neg (show ¬ nI n < (12 : Int32) from nI_nlt (b := 12) (by omega) (by omega)), if_pos (e12.mpr c), no _ (by decide)]
      exact out_no h (by decide) m6
    · have hn : n < 12 := by omega
      rw [if_pos (show nI n < (12 : Int32) from nI_lt (b := 12) hn (by decide)), if_neg (fun q => c (e12.mp q))]
      unfold f_X5_add j_X8_row_24
      rw [if_pos rfl, r1, r3, store_in hn (by decide), if_pos (inb_nI hn (by decide)), nI_clamp (by omega)]
      refine out_ok (Rel_row hh ⟨n + 1, upA R n j, ?_, ?_, ?_, ?_⟩)
      · rw [upA_s, su_s]; exact nI_1 n
      · rw [upA_s]
        refine ⟨by omega, fun k hk => ?_⟩
        show upd ((Z 6).2 1) n (nI j) k = _ ∧ _ ≤ _
        by_cases e : k = n
        · subst e; rw [upd_s, upA_s]; exact ⟨rfl, hj⟩
        · rw [upd_n e, upA_n e]; exact r2.2 k (by omega)
      · rw [su_s]; exact nI_1 n
      · refine ⟨by omega, fun k hk => ?_⟩
        rw [su_a, sa_s]
        by_cases e : k = n
        · subst e; rw [upd_s, upA_s]; exact ⟨rfl, hj⟩
        · rw [upd_n e, upA_n e]; exact r4.2 k (by omega)
  · rw [show f_X8_bound v1 0 99 = some (-6) from b3, if_pos (show (0 : Int32) ≤ v1 from b1), if_pos (show (99 : Int32) < v1 from i32_nle.mp b2), Option.bind_some, if_neg (by decide), no _ (by decide)]
    exact out_no h (by decide) m6
  · rw [show f_X8_bound v1 0 99 = some (-4) from b3, if_neg (show ¬ (0 : Int32) ≤ v1 from b1), Option.bind_some, if_neg (by decide), no _ (by decide)]
    exact out_no h (by decide) m4
