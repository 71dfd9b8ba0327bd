/-! PURE: questions, both sides, on -/
/-- bounds: below, between, above -/
theorem bnd3 {lo hi : Nat} (hlh : lo ≤ hi) (hh : hi < 2 ^ 31) (v : Int32) : (∃ j, lo ≤ j ∧ j ≤ hi ∧ v = nI j ∧ nI lo ≤ v ∧ v ≤ nI hi ∧ f_X8_bound v (nI lo) (nI hi) = some 0) ∨ (nI lo ≤ v ∧ ¬ v ≤ nI hi ∧ f_X8_bound v (nI lo) (nI hi) = some (-6)) ∨ (¬ nI lo ≤ v ∧ f_X8_bound v (nI lo) (nI hi) = some (-4)) := by
  unfold f_X8_bound
  by_cases c : nI lo ≤ v
  · have hv : ¬ v < 0 := by
      intro q
      have h1 := Int32.le_iff_toInt_le.mp c
      have h2 := Int32.lt_iff_toInt_lt.mp q
      rw [nI_toInt (by omega)] at h1
      have h3 : (0 : Int32).toInt = 0 := by decide
      omega
    obtain ⟨j, hj, rfl⟩ := nI_of hv
    have hlo := (nI_leI (by omega) hj).mp c
    by_cases c2 : nI j ≤ nI hi
    · exact Or.inl ⟨j, hlo, (nI_leI hj hh).mp c2, rfl, c, c2, by rw [if_pos c, if_pos c2]⟩
    · exact Or.inr (Or.inl ⟨c, c2, by rw [if_pos c, if_neg c2]⟩)
  · exact Or.inr (Or.inr ⟨c, by rw [if_neg c]⟩)
theorem q_fair {Z : Nat → OS} {S : OS} (h : Rel Z S) (v1 v2 : Int32) : Out (f_X7_fair Z v1 v2) (f_X8_fair S v1 v2) := by
  obtain ⟨V, ⟨hT, hM, hB, hL⟩, -⟩ := id h
  have h6 := hB.2.1
  have hp6 : 2 ^ V 1 0 ≤ 2 ^ 6 := Nat.pow_le_pow_right (by decide) h6
  unfold f_X7_fair f_X8_fair
  rcases hrs v1 with ⟨hr, hh, rfl, e1, e2⟩ | ⟨e1, e2⟩
  · rw [e1, e2]
    simp only [Option.bind_some, n10, ↓reduceIte]
    unfold j_X8_fair_18
    rcases bnd3 (lo := 0) (hi := 6) (by decide) (by decide) v2 with ⟨j, -, hj, rfl, b1, b2, b3⟩ | ⟨b1, b2, b3⟩ | ⟨b1, b3⟩
    · rw [show (6 : Int32) = nI 6 from rfl, show (0 : Int32) = nI 0 from rfl, b3, if_pos b1, if_pos b2]
      simp only [Option.bind_some, show nI 0 = (0 : Int32) from rfl, ↓reduceIte]
      by_cases c : j = 0
      · subst c
        rw [if_pos (show nI 0 = 0 from rfl), if_pos (show nI 0 = 0 from rfl), allw_C hT hB, Option.bind_some, apart_C hT hB (by omega) hh, hM.1 1 (by decide), sh1 _ (by omega), show nI (2 ^ V 1 0) - (1 : Int32) = nI (2 ^ V 1 0 - 1) from pk_sub (a := 2 ^ V 1 0) (b := 1) (Nat.two_pow_pos _), apart_M hM hB (by omega) hh]
        exact out_ok h
      · have c0 : ¬ nI j = 0 := nI_ne0 (by omega) (by omega)
        rw [if_neg c0, if_neg c0, fair_C hT hB hh hj, fair_M hM hB hh (by omega) hj]
        exact out_ok h
    · rw [show (6 : Int32) = nI 6 from rfl, show (0 : Int32) = nI 0 from rfl, b3, if_pos b1, if_neg b2]
      exact out_no h (by decide) m6
    · rw [show (6 : Int32) = nI 6 from rfl, show (0 : Int32) = nI 0 from rfl, b3, if_neg b1]
      exact out_no h (by decide) m4
  · rw [e1, e2]
    exact out_no h (by decide) m1
theorem q_moped {Z : Nat → OS} {S : OS} (h : Rel Z S) (v1 v2 : Int32) : Out (f_X7_moped Z v1 v2) (f_X8_moped S v1 v2) := by
  obtain ⟨V, ⟨hT, hM, hB, hL⟩, -⟩ := id h
  unfold f_X7_moped f_X8_moped j_X8_moped_24
  rcases bnd3 (lo := 0) (hi := 60) (by decide) (by decide) v1 with ⟨j, -, hj, rfl, b1, b2, b3⟩ | ⟨b1, b2, b3⟩ | ⟨b1, b3⟩
  · rw [show (60 : Int32) = nI 60 from rfl, show f_X8_bound (nI j) 0 (nI 60) = some 0 from b3, if_pos (show (0 : Int32) ≤ nI j from b1), if_pos b2]
    simp only [Option.bind_some, ↓reduceIte]
    rw [foll_C hT hB (by omega), foll_M hM hB (by omega), ttf_C hT hB, moped_M hM hB]
    rcases eit v2 with ⟨rfl, -, e⟩ | ⟨rfl, -, e⟩ | ⟨c0, c1, -, e⟩
    · rw [e]; exact out_ok h
    · rw [e]; exact out_ok h
    · rw [e, if_neg c0, if_neg c1]; exact out_no h (by decide) m2
  · rw [show (60 : Int32) = nI 60 from rfl, show f_X8_bound v1 0 (nI 60) = some (-6) from b3, if_pos (show (0 : Int32) ≤ v1 from b1), if_neg b2]
    exact out_no h (by decide) m6
  · rw [show (60 : Int32) = nI 60 from rfl, show f_X8_bound v1 0 (nI 60) = some (-4) from b3, if_neg (show ¬ (0 : Int32) ≤ v1 from b1)]
    exact out_no h (by decide) m4
theorem q_made {Z : Nat → OS} {S : OS} (h : Rel Z S) (v1 v2 v3 : Int32) : Out (f_X7_made Z v1 v2 v3) (f_X8_made S v1 v2 v3) := by
  obtain ⟨V, ⟨hT, hM, hB, hL⟩, -⟩ := id h
  unfold f_X7_made f_X8_made j_X8_made_13 j_X8_made_36 j_X8_made_42
  by_cases c1 : v1 < 0
  · rw [if_pos c1, if_pos c1]; exact out_no h (by decide) m4
  · rw [if_neg c1, if_neg c1]
    by_cases c2 : v2 < 1
    · rw [if_pos c2, if_pos c2]; exact out_no h (by decide) m4
    · rw [if_neg c2, if_neg c2]
      by_cases c3 : 0 ≤ v3
      · rw [if_pos c3, if_pos c3]
        obtain ⟨a, ha, rfl⟩ := nI_of c1
        have e4 : (64 : Int32) ≤ nI a ↔ (63 : Int32) < nI a := by
          rw [show (64 : Int32) = nI 64 from rfl, show (63 : Int32) = nI 63 from rfl, nI_leI (by decide) ha, nI_ltI (by decide) ha]
          omega
        by_cases c4 : (63 : Int32) < nI a
        · rw [if_pos (e4.mpr c4), if_pos c4]; exact out_no h (by decide) m6
        · rw [if_neg (fun q => c4 (e4.mp q)), if_neg c4]
          by_cases c5 : (72 : Int32) < v2
          · rw [if_pos c5, if_pos c5]; exact out_no h (by decide) m6
          · rw [if_neg c5, if_neg c5]
            by_cases c6 : v3 ≤ 99
            · have a64 : a < 64 := Nat.lt_of_not_le fun q : 64 ≤ a => c4 (nI_lt (a := 63) (by omega) ha)
              have c2' : ¬ v2 < 0 := fun q => c2 (by
                rw [Int32.lt_iff_toInt_lt] at q ⊢
                have e0 : (0 : Int32).toInt = 0 := by decide
                have e1 : (1 : Int32).toInt = 1 := by decide
                omega)
              obtain ⟨m, hm, rfl⟩ := nI_of c2'
              have m72 : m ≤ 72 := Nat.le_of_not_lt fun q : 72 < m => c5 (nI_lt (a := 72) q hm)
              obtain ⟨v, hv, rfl⟩ := nI_of (i32_nlt.mpr c3)
              have v99 : v ≤ 99 := (nI_leI (b := 99) hv (by decide)).mp c6
              rw [if_pos c6, if_pos c6, made_C hT hB hL a64 m72 v99, if_pos rfl, made_M hM hB hL a64 m72 v99]
              exact out_ok h
            · rw [if_neg c6, if_neg c6]; exact out_no h (by decide) m6
      · rw [if_neg c3, if_neg c3]; exact out_no h (by decide) m4
theorem q_strict {Z : Nat → OS} {S : OS} (h : Rel Z S) (v1 v2 : Int32) : Out (f_X7_strict Z v1 v2) (f_X8_strict S v1 v2) := by
  obtain ⟨V, ⟨hT, hM, hB, hL⟩, -, -, ⟨n, R, r1, r2, r3, r4⟩, -⟩ := id h
  unfold f_X7_strict f_X8_strict
  rcases wys hT hM hB v1 with ⟨w, hw, rfl, e1, e2⟩ | ⟨e1, e2⟩
  · rw [e1, e2]
    simp only [Option.bind_some, n10, ↓reduceIte]
    rw [tells_C hT hB r1 r2, Option.bind_some, if_bI, told_M hM hB r3 r4]
    rcases whi (n := 2) (by decide) v2 with ⟨j, hj, rfl, e⟩ | ⟨hj, e⟩
    · rw [show (2 : Int32) = nI 2 from rfl, e, if_neg (nI_pos (by omega)), if_pos (nI_le hj (by decide))]
      simp only [Option.bind_some, n10, ↓reduceIte]
      unfold j_X8_strict_30
      by_cases c : twB V R n = true
      · have c' := c
        unfold twB at c'
        rw [Bool.and_eq_true] at c'
        have hn := of_decide_eq_true c'.1
        have h2 : ∀ k, k < n → R k ≤ 2 := fun k hk => of_decide_eq_true (alB_at c'.2 hk)
        rw [if_pos c, if_pos c]
        simp only [↓reduceIte]
        rw [lims_C hT hB hL r1 r2 hn h2 hw, lea_C hT hB hL r1 r2 hn h2 hw, when_C hT hB hL r1 r2 hn h2 hw, when_M hM hB hL r3 r4 hn h2 hw, strict_M hM hB hL r3 r4 hn h2 hw]
        rcases (by omega : j = 0 ∨ j = 1 ∨ j = 2) with q | q | q
        · subst q; exact out_ok h
        · subst q; exact out_ok h
        · subst q; exact out_ok h
      · rw [if_neg c, if_neg c]
        exact out_no h (by decide) m3
    · rw [show (2 : Int32) = nI 2 from rfl, e]
      by_cases c : v2 < 0
      · rw [if_pos c]; exact out_no h (by decide) m2
      · obtain ⟨j, hj2, rfl⟩ := nI_of c
        have : ¬ nI j ≤ nI 2 := fun q => hj j ((nI_leI hj2 (by decide)).mp q) rfl
        rw [if_neg c, if_neg this]; exact out_no h (by decide) m2
  · rw [e1, e2]
    exact out_no h (by decide) m1
theorem q_queue {Z : Nat → OS} {S : OS} (h : Rel Z S) (v1 v2 : Int32) : Out (f_X7_queue Z v1 v2) (f_X8_queue S v1 v2) := by
  obtain ⟨V, ⟨hT, hM, hB, hL⟩, -⟩ := id h
  unfold f_X7_queue f_X8_queue
  rcases wys hT hM hB v1 with ⟨w, hw, rfl, e1, e2⟩ | ⟨e1, e2⟩
  · rw [e1, e2]
    simp only [Option.bind_some, n10, ↓reduceIte]
    by_cases c : (-1 : Int32) ≤ v2
    · obtain ⟨S', hS'⟩ := queue_C (S := Z 7) (i := v2) hT hB hL hw
      obtain ⟨F, hF⟩ := queue_M (i := v2) hM hB hL hw
      rw [if_pos c, if_pos c, hS', hF]
      exact out_ok (Rel_z7 (Rel_s27 h))
    · rw [if_neg c, if_neg c]
      exact out_no h (by decide) m4
  · rw [e1, e2]
    exact out_no h (by decide) m1
theorem q_lessons {Z : Nat → OS} {S : OS} (h : Rel Z S) (v1 v2 v3 : Int32) : Out (f_X7_lessons Z v1 v2 v3) (f_X8_lessons S v1 v2 v3) := by
  obtain ⟨V, ⟨hT, hM, hB, hL⟩, -⟩ := id h
  have h5 := hB.2.2.1
  unfold f_X7_lessons f_X8_lessons
  rcases all3 hT hM hB v1 v2 v3 with ⟨l, w, hr, hl, hw, hh, rfl, rfl, rfl, e1, e2, e3, e4⟩ | ⟨e4, e⟩
  · have hl5 : l < 5 := by omega
    rw [e1, e4]
    simp only [Option.bind_some, n10, ↓reduceIte]
    rw [e2]
    simp only [Option.bind_some, n10, ↓reduceIte]
    rw [e3]
    simp only [Option.bind_some, n10, ↓reduceIte]
    rw [less_C hT hB hL hl5 hw hh, lessons_M hM hB hL hl5 hw hh]
    exact out_ok h
  · rw [e4]
    rcases e with e | ⟨e1, e2⟩ | ⟨e1, e2, e3⟩
    · rw [e]; exact out_no h (by decide) m1
    · rw [e1]
      simp only [Option.bind_some, n10, ↓reduceIte]
      rw [e2]; exact out_no h (by decide) m1
    · rw [e1]
      simp only [Option.bind_some, n10, ↓reduceIte]
      rw [e2]
      simp only [Option.bind_some, n10, ↓reduceIte]
      rw [e3]; exact out_no h (by decide) m1
theorem q_skillWanted {Z : Nat → OS} {S : OS} (h : Rel Z S) (v1 v2 v3 : Int32) : Out (f_X7_skillWanted Z v1 v2 v3) (f_X8_skillWanted S v1 v2 v3) := by
  obtain ⟨V, ⟨hT, hM, hB, hL⟩, -⟩ := id h
  have h5 := hB.2.2.1
  unfold f_X7_skillWanted f_X8_skillWanted
  rcases all3 hT hM hB v1 v2 v3 with ⟨l, w, hr, hl, hw, hh, rfl, rfl, rfl, e1, e2, e3, e4⟩ | ⟨e4, e⟩
  · have hl5 : l < 5 := by omega
    rw [e1, e4]
    simp only [Option.bind_some, n10, ↓reduceIte]
    rw [e2]
    simp only [Option.bind_some, n10, ↓reduceIte]
    rw [e3]
    simp only [Option.bind_some, n10, ↓reduceIte]
    rw [lskill_C hT hB hL hl5 hw hh, inb_t hl5 (by decide), nI_clamp (by omega), show S.2 5 l = nI (V 10 l) from hM.2 10 (by decide) (by decide) l hl5, skill_M hM hB hL hl5 hw hh]
    exact out_ok h
  · rw [e4]
    rcases e with e | ⟨e1, e2⟩ | ⟨e1, e2, e3⟩
    · rw [e]; exact out_no h (by decide) m1
    · rw [e1]
      simp only [Option.bind_some, n10, ↓reduceIte]
      rw [e2]; exact out_no h (by decide) m1
    · rw [e1]
      simp only [Option.bind_some, n10, ↓reduceIte]
      rw [e2]
      simp only [Option.bind_some, n10, ↓reduceIte]
      rw [e3]; exact out_no h (by decide) m1
theorem ch_lt {V : Nat → Nat → Nat} {l bits t n : Nat} (ht : 2 ≤ t) (ht2 : t ≤ 20) (hn : n ≤ 257) : chN V l bits t n < 2 ^ 62 := Nat.lt_of_le_of_lt (Nat.le_trans (chN_le ht ht2 n) (Nat.mul_le_mul_right _ hn)) (by decide)
theorem tp_lt {t k : Nat} (ht2 : t ≤ 20) (hk : k ≤ 8) : t ^ k < 2 ^ 62 := Nat.lt_of_le_of_lt (Nat.le_trans (Nat.pow_le_pow_left ht2 _) (Nat.pow_le_pow_right (by decide) hk)) (by decide : 20 ^ 8 < 2 ^ 62)
theorem ball_B {V : Nat → Nat → Nat} {Z : Nat → OS} (hT : TR V (Z 1)) (hB : WB V) (hL : WL V) {l w t : Nat} {v : Int32} (hl : l < 5) (hw : w < V 1 0) (ht : 2 ≤ t) (ht2 : t ≤ 20) : ((f_X7_at 6 ((Z 1).2 9) (nI w)).bind fun x5 => (f_J6_bitCount_0f7a4 x5).bind fun x6 => (f_X2_chancesWithBalls (Z 1) (nI l) (nI w) (nI t)).bind fun x7 => (f_X7_power (nI t) x6).bind fun x8 => (f_X7_partOf x7 x8 v).bind fun x9 => some (x9, Z)) = some (ptA (chN V l (V 9 w) t (V 9 w + 1)) (t ^ pc 8 (V 9 w)) v, Z) := by
  have hth := WB_th hB hw
  have hpc := pc_le 8 (V 9 w)
  have hpow := tp_lt ht2 hpc
  have hch := ch_lt (V := V) (l := l) (bits := V 9 w) ht ht2 (n := V 9 w + 1) (by omega)
  rw [way_C hT hB hw, Option.bind_some, bc_C _ hth, Option.bind_some, chance_C hT hB hL hl hw ht ht2, Option.bind_some, pow_C (by omega) (by omega), Option.bind_some, part_C hch hpow, Option.bind_some]
theorem j48_no {S : OS} {v1 v2 v3 v4 x : Int32} (hx : ¬ x = 0) : j_X8_ball_48 v1 v2 v3 v4 x S = (f_X8_lowest S x).bind fun y => some (y.1, y.2) := by
  unfold j_X8_ball_48
  rw [if_neg hx]
theorem j27_no {S : OS} {v1 v2 v3 v4 x : Int32} (hx : ¬ x = 0) : j_X8_ball_27 v1 v2 v3 v4 x S = (f_X8_lowest S x).bind fun y => some (y.1, y.2) := by
  unfold j_X8_ball_27
  rw [if_neg hx, j48_no hx]
theorem j27_yes {S : OS} {v1 v2 v3 v4 : Int32} : j_X8_ball_27 v1 v2 v3 v4 0 S = (f_X8_isIn v4 0 1).bind fun x4 => if x4 = 0 then j_X8_ball_48 v1 v2 v3 v4 (-2) S else j_X8_ball_48 v1 v2 v3 v4 0 S := by
  unfold j_X8_ball_27
  rw [if_pos rfl]
theorem q_ball {Z : Nat → OS} {S : OS} (h : Rel Z S) (v1 v2 v3 v4 : Int32) : Out (f_X7_ball Z v1 v2 v3 v4) (f_X8_ball S v1 v2 v3 v4) := by
  obtain ⟨V, ⟨hT, hM, hB, hL⟩, -⟩ := id h
  have h5 := hB.2.2.1
  have z1 : ¬ (-1 : Int32) = 0 := by decide
  have z2 : ¬ (-2 : Int32) = 0 := by decide
  have z4 : ¬ (-4 : Int32) = 0 := by decide
  have z6 : ¬ (-6 : Int32) = 0 := by decide
  unfold f_X7_ball f_X8_ball j_X8_ball_16
  rcases lrn hT hM hB v1 with ⟨l, hl, rfl, e1, e2⟩ | ⟨e1, e2⟩
  · have hl5 : l < 5 := by omega
    rw [e1, e2]
    simp only [Option.bind_some, n10, ↓reduceIte]
    rcases wys hT hM hB v2 with ⟨w, hw, rfl, e3, e4⟩ | ⟨e3, e4⟩
    · rw [e3, e4]
      simp only [Option.bind_some, n10, ↓reduceIte]
      rcases bnd3 (lo := 2) (hi := 20) (by decide) (by decide) v3 with ⟨t, ht, ht2, rfl, b1, b2, b3⟩ | ⟨b1, b2, b3⟩ | ⟨b1, b3⟩
      · rw [show f_X8_bound (nI t) 2 20 = some 0 from b3, if_pos (show (2 : Int32) ≤ nI t from b1), if_pos (show nI t ≤ (20 : Int32) from b2), ball_B hT hB hL hl5 hw ht ht2, Option.bind_some, j27_yes, ball_A hM hB hL hl5 hw ht ht2, j48_no z2]
        rcases eit v4 with ⟨rfl, e, e'⟩ | ⟨rfl, e, e'⟩ | ⟨c0, c1, e, e'⟩
        · rw [e, e']
          simp only [Option.bind_some, n10, ↓reduceIte]
          exact out_ok h
        · rw [e, e']
          simp only [Option.bind_some, n10, ↓reduceIte]
          exact out_ok h
        · rw [e, e']
          simp only [Option.bind_some, ↓reduceIte]
          exact out_lo h (by decide) m2
      · rw [show f_X8_bound v3 2 20 = some (-6) from b3, if_pos (show (2 : Int32) ≤ v3 from b1), if_neg (show ¬ v3 ≤ (20 : Int32) from b2), Option.bind_some, j27_no z6]
        exact out_lo h (by decide) m6
      · rw [show f_X8_bound v3 2 20 = some (-4) from b3, if_neg (show ¬ (2 : Int32) ≤ v3 from b1), Option.bind_some, j27_no z4]
        exact out_lo h (by decide) m4
    · rw [e3, e4, Option.bind_some, Option.bind_some, if_pos rfl, if_pos rfl, j27_no z1]
      exact out_lo h (by decide) m1
  · rw [e1, e2, Option.bind_some, Option.bind_some, if_pos rfl, if_pos rfl, j27_no z1]
    exact out_lo h (by decide) m1
