/-! PURE: questions, both sides -/
theorem m1 : -(-1 : Int32) = nI 1 := by decide
theorem m2 : -(-2 : Int32) = nI 2 := by decide
theorem m3 : -(-3 : Int32) = nI 3 := by decide
theorem m4 : -(-4 : Int32) = nI 4 := by decide
theorem m6 : -(-6 : Int32) = nI 6 := by decide
theorem n10 : ¬ (1 : Int32) = 0 := by decide
theorem q_streetOf {Z : Nat → OS} {S : OS} (h : Rel Z S) (v1 v2 : Int32) : Out (f_X7_streetOf Z v1 v2) (f_X8_streetOf S v1 v2) := by
  obtain ⟨V, ⟨hT, hM, hB, hL⟩, -⟩ := id h
  unfold f_X7_streetOf f_X8_streetOf
  rcases sts hT hM hB v1 with ⟨s, hs, rfl, e1, e2⟩ | ⟨e1, e2⟩
  · have h8 := hB.1
    have hs8 : s < 8 := by omega
    obtain ⟨g1, g2, g3⟩ := (MR_MB hM).2.2.2.1 s hs8
    rw [e1, e2]
    simp only [Option.bind_some, n10, ↓reduceIte, inb_nI hs8 (show 8 < 2 ^ 31 by decide), nI_clamp (show s < 2 ^ 31 by omega), at_in hs8 (show 8 < 2 ^ 31 by decide), g1, g2, g3, hT.2 6 (by decide) (by decide) s hs8, hT.2 7 (by decide) (by decide) s hs8, hT.2 8 (by decide) (by decide) s hs8]
    by_cases c0 : v2 = 0
    · rw [if_pos c0, if_pos c0]; exact out_ok h
    · rw [if_neg c0, if_neg c0]
      by_cases c1 : v2 = 1
      · rw [if_pos c1, if_pos c1]; exact out_ok h
      · rw [if_neg c1, if_neg c1]
        by_cases c2 : v2 = 2
        · rw [if_pos c2, if_pos c2]; exact out_ok h
        · rw [if_neg c2, if_neg c2]
          by_cases c3 : v2 = 3
          · rw [if_pos c3, if_pos c3, hT.1 3 (by decide), hard_C hT hB hs8 hL.1, show S.1 10 = nI (V 3 0) from hM.1 3 (by decide), hard_M (MR_MB hM) hB hs8 hL.1]; exact out_ok h
          · rw [if_neg c3, if_neg c3]
            by_cases c4 : v2 = 4
            · rw [if_pos c4, if_pos c4, ball_C hT hB hs8, ball_M (MR_MB hM) hB hs8]; exact out_ok h
            · rw [if_neg c4, if_neg c4]; exact out_no h (by decide) m2
  · rw [e1, e2]
    exact out_no h (by decide) m1
theorem q_learnerOf {Z : Nat → OS} {S : OS} (h : Rel Z S) (v1 v2 : Int32) : Out (f_X7_learnerOf Z v1 v2) (f_X8_learnerOf S v1 v2) := by
  obtain ⟨V, ⟨hT, hM, hB, hL⟩, -⟩ := id h
  unfold f_X7_learnerOf f_X8_learnerOf
  rcases lrn hT hM hB v1 with ⟨s, hs, rfl, e1, e2⟩ | ⟨e1, e2⟩
  · have h8 := hB.2.2.1
    have hs8 : s < 5 := by omega
    rw [e1, e2]
    simp only [Option.bind_some, n10, ↓reduceIte, inb_nI hs8 (show 5 < 2 ^ 31 by decide), nI_clamp (show s < 2 ^ 31 by omega), at_in hs8 (show 5 < 2 ^ 31 by decide), show S.2 5 s = nI (V 10 s) from hM.2 10 (by decide) (by decide) s hs8, show S.2 6 s = nI (V 11 s) from hM.2 11 (by decide) (by decide) s hs8, hT.2 10 (by decide) (by decide) s hs8, hT.2 11 (by decide) (by decide) s hs8]
    by_cases c0 : v2 = 0
    · rw [if_pos c0, if_pos c0]; exact out_ok h
    · rw [if_neg c0, if_neg c0]
      by_cases c1 : v2 = 1
      · rw [if_pos c1, if_pos c1]; exact out_ok h
      · rw [if_neg c1, if_neg c1]; exact out_no h (by decide) m2
  · rw [e1, e2]
    exact out_no h (by decide) m1
theorem q_wayOf {Z : Nat → OS} {S : OS} (h : Rel Z S) (v1 v2 v3 : Int32) : Out (f_X7_wayOf Z v1 v2 v3) (f_X8_wayOf S v1 v2 v3) := by
  obtain ⟨V, ⟨hT, hM, hB, hL⟩, -⟩ := id h
  unfold f_X7_wayOf f_X8_wayOf
  rcases wys hT hM hB v1 with ⟨w, hw, rfl, e1, e2⟩ | ⟨e1, e2⟩
  · have hth := WB_th hB hw
    have hX := MR_MB hM
    rw [e1, e2]
    simp only [Option.bind_some, n10, ↓reduceIte]
    rcases hrs v2 with ⟨hh, h24, rfl, e3, e4⟩ | ⟨e3, e4⟩
    · rw [e3, e4]
      simp only [Option.bind_some, n10, ↓reduceIte, ibw hB hw, thM hM hB hw]
      rw [way_C hT hB hw, Option.bind_some, mo_C hT hB (by omega), ho_C hT hB (by omega) h24, ko_C hT hB (by omega), mo_M hX hB (by omega), ho_M hX hB (by omega) h24, ko_M hX hB (by omega)]
      by_cases c0 : v3 = 0
      · rw [if_pos c0, if_pos c0]; exact out_ok h
      · rw [if_neg c0, if_neg c0]
        by_cases c1 : v3 = 1
        · rw [if_pos c1, if_pos c1]; exact out_ok h
        · rw [if_neg c1, if_neg c1]
          by_cases c2 : v3 = 2
          · rw [if_pos c2, if_pos c2]; exact out_ok h
          · rw [if_neg c2, if_neg c2]
            by_cases c3 : v3 = 3
            · rw [if_pos c3, if_pos c3]; exact out_ok h
            · rw [if_neg c3, if_neg c3]; exact out_no h (by decide) m2
    · rw [e3, e4]
      exact out_no h (by decide) m1
  · rw [e1, e2]
    exact out_no h (by decide) m1
/-- not all three: both refuse -/
theorem q_faults {Z : Nat → OS} {S : OS} (h : Rel Z S) (v1 v2 v3 v4 : Int32) : Out (f_X7_faults Z v1 v2 v3 v4) (f_X8_faults S v1 v2 v3 v4) := by
  obtain ⟨V, ⟨hT, hM, hB, hL⟩, -⟩ := id h
  have h5 := hB.2.2.1
  unfold f_X7_faults f_X8_faults
  rcases all3 hT hM hB v1 v2 v3 with ⟨l, w, hr, hl, hw, hh, rfl, rfl, rfl, e1, e2, e3, e4⟩ | ⟨e4, e⟩
  · have hl5 : l < 5 := by omega
    have hth := WB_th hB hw
    rw [e1, e4]
    simp only [Option.bind_some, n10, ↓reduceIte]
    rw [e2]
    simp only [Option.bind_some, n10, ↓reduceIte]
    rw [e3]
    simp only [Option.bind_some, n10, ↓reduceIte]
    unfold j_X8_faults_30
    simp only [↓reduceIte, ibw hB hw, thM hM hB hw]
    rw [fo_C hT hB hL hl5 hw hh, pa_C hT hB hL hl5 hw hh, worst_C hT hB hL hl5 hw hh, worst_M hM hB hL hl5 hw hh, foM hM hB hL hl5 (by omega) hh, pwM hM hB hL hl5 hw hh]
    rcases whi (n := 2) (by decide) v4 with ⟨j, hj, rfl, e⟩ | ⟨hj, e⟩
    · rw [show (2 : Int32) = nI 2 from rfl, e]
      obtain ⟨b, hb, -⟩ := ws_some hB (l := l) (h := hr) hw
      rcases (by omega : j = 0 ∨ j = 1 ∨ j = 2) with q | q | q
      · subst q; exact out_ok h
      · subst q
        simp only [Option.bind_some, if_bI]
        cases paB V (V 9 w) (V 10 l) (V 11 l) hr (V 4 0) with
        | true => exact out_ok h
        | false => exact out_ok h
      · subst q
        rw [hb]
        exact out_ok h
    · rw [show (2 : Int32) = nI 2 from rfl, e, if_neg (show ¬ v4 = 0 from hj 0 (by decide)), if_neg (show ¬ v4 = 1 from hj 1 (by decide)), if_neg (show ¬ v4 = nI 2 from hj 2 (by decide))]
      exact out_no h (by decide) m2
  · rw [e4]
    rcases e with e | ⟨e1, e2⟩ | ⟨e1, e2, e3⟩
    · rw [e]; exact out_no h (by decide) m1
    · rw [e1]
      simp only [Option.bind_some, n10, ↓reduceIte]
      rw [e2]; exact out_no h (by decide) m1
    · rw [e1]
      simp only [Option.bind_some, n10, ↓reduceIte]
      rw [e2]
      simp only [Option.bind_some, n10, ↓reduceIte]
      rw [e3]; exact out_no h (by decide) m1
theorem q_bestHour {Z : Nat → OS} {S : OS} (h : Rel Z S) (v1 v2 v3 : Int32) : Out (f_X7_bestHour Z v1 v2 v3) (f_X8_bestHour S v1 v2 v3) := by
  obtain ⟨V, ⟨hT, hM, hB, hL⟩, -⟩ := id h
  have h5 := hB.2.2.1
  unfold f_X7_bestHour f_X8_bestHour
  rcases lrn hT hM hB v1 with ⟨l, hl, rfl, e1, e2⟩ | ⟨e1, e2⟩
  · have hl5 : l < 5 := by omega
    rw [e1, e2]
    simp only [Option.bind_some, n10, ↓reduceIte]
    rcases wys hT hM hB v2 with ⟨w, hw, rfl, e3, e4⟩ | ⟨e3, e4⟩
    · rw [e3, e4]
      simp only [Option.bind_some, n10, ↓reduceIte]
      unfold j_X8_bestHour_35
      simp only [↓reduceIte]
      rw [bhour_M hM hB hL hl5 hw, bhour_C hT hB hL hl5 hw, hours_C hT hB hL hl5 hw]
      rcases eit v3 with ⟨rfl, -, e⟩ | ⟨rfl, -, e⟩ | ⟨c0, c1, -, e⟩
      · rw [e]; exact out_ok h
      · rw [e]; exact out_ok h
      · rw [e, if_neg c0, if_neg c1]; exact out_no h (by decide) m2
    · rw [e3, e4]
      exact out_no h (by decide) m1
  · rw [e1, e2]
    exact out_no h (by decide) m1
theorem wpC2 {V : Nat → Nat → Nat} {T : OS} (hT : TR V T) (hB : WB V) (hL : WL V) {l h : Nat} (hl : l < 5) (hh : h < 24) : ((f_X7_at 5 (T.2 10) (nI l)).bind fun x5 => (f_X7_at 5 (T.2 11) (nI l)).bind fun x6 => f_X6_waysPassed T x5 x6 (nI h)) = some (nI (wp V (V 10 l) (V 11 l) h (V 4 0))) := by
  rw [at_in hl (by decide), Option.bind_some, at_in hl (by decide), Option.bind_some, hT.2 10 (by decide) (by decide) l hl, hT.2 11 (by decide) (by decide) l hl, wp_C hT hB hL hh (hL.2.2.2 l hl).1 (kn_lt hB hL hl)]
theorem q_easiest {Z : Nat → OS} {S : OS} (h : Rel Z S) (v1 v2 v3 : Int32) : Out (f_X7_easiest Z v1 v2 v3) (f_X8_easiest S v1 v2 v3) := by
  obtain ⟨V, ⟨hT, hM, hB, hL⟩, -⟩ := id h
  have h5 := hB.2.2.1
  unfold f_X7_easiest f_X8_easiest
  rcases lrn hT hM hB v1 with ⟨l, hl, rfl, e1, e2⟩ | ⟨e1, e2⟩
  · have hl5 : l < 5 := by omega
    rw [e1, e2]
    simp only [Option.bind_some, n10, ↓reduceIte]
    rcases hrs v2 with ⟨hr, hh, rfl, e3, e4⟩ | ⟨e3, e4⟩
    · rw [e3, e4]
      simp only [Option.bind_some, n10, ↓reduceIte]
      unfold j_X8_easiest_34
      simp only [↓reduceIte]
      rw [easy_M hM hB hL hl5 hh, wpM hM hB hL hl5 hh, easy_C hT hB hL hl5 hh, at_in hl5 (by decide), Option.bind_some, at_in hl5 (by decide), Option.bind_some, hT.2 10 (by decide) (by decide) l hl5, hT.2 11 (by decide) (by decide) l hl5]
      simp only [Option.bind_some]
      rw [wp_C hT hB hL hh (hL.2.2.2 l hl5).1 (kn_lt hB hL hl5)]
      rcases eit v3 with ⟨rfl, -, e⟩ | ⟨rfl, -, e⟩ | ⟨c0, c1, -, e⟩
      · rw [e]; exact out_ok h
      · rw [e]; exact out_ok h
      · rw [e, if_neg c0, if_neg c1]; exact out_no h (by decide) m2
    · rw [e3, e4]
      exact out_no h (by decide) m1
  · rw [e1, e2]
    exact out_no h (by decide) m1
theorem swN_lt {V : Nat → Nat → Nat} (hB : WB V) {way : Option Nat} (hw : ∀ w, way = some w → w < V 1 0) : swN V way < 2 ^ 31 := by
  have h6 := hB.2.1
  have hp6 : 2 ^ V 1 0 ≤ 2 ^ 6 := Nat.pow_le_pow_right (by decide) h6
  cases way with
  | none => show 2 ^ V 1 0 - 1 < _; omega
  | some w =>
    have := hw w rfl
    exact Nat.pow_lt_pow_right (by decide) (by omega)
theorem q_learn {Z : Nat → OS} {S : OS} (h : Rel Z S) (v1 v2 v3 : Int32) : Out (f_X7_learn Z v1 v2 v3) (f_X8_learn S v1 v2 v3) := by
  obtain ⟨V, ⟨hT, hM, hB, hL⟩, -⟩ := id h
  have h5 := hB.2.2.1
  have h6 := hB.2.1
  unfold f_X7_learn f_X8_learn j_X7_learn_10
  rcases lrn hT hM hB v1 with ⟨l, hl, rfl, e1, e2⟩ | ⟨e1, e2⟩
  · have hl5 : l < 5 := by omega
    have key : ∀ (way : Option Nat) (s0 : Int32), (∀ w, way = some w → w < V 1 0) → v2 = ob (-1) way → (s0 = 0 ∧ (∃ w, way = some w) ∨ s0 = 1 ∧ way = none) → Out (j_X7_learn_39 (nI l) v2 v3 s0 Z) (j_X8_learn_21 (nI l) v2 v3 S) := by
      intro way s0 hw hv hs
      unfold j_X7_learn_39 j_X8_learn_21
      rcases hrs v3 with ⟨hr, hh, rfl, e3, e4⟩ | ⟨e3, e4⟩
      · rw [e3, e4]
        simp only [Option.bind_some, n10, ↓reduceIte]
        rw [hv, learn_M hM hB hL hl5 hw hh, learn_e hw]
        rcases hs with ⟨rfl, w, rfl⟩ | ⟨rfl, rfl⟩
        · have hw1 := hw w rfl
          rw [if_pos rfl, show ob (-1) (some w) = nI w from rfl, sh1 w (by omega), show nI (2 ^ w) = nI (swN V (some w)) from rfl, learn_C hT hB hL hl5 (swN_lt hB hw) hh]
          exact out_ok h
        · rw [if_neg n10, allw_C hT hB, Option.bind_some, show nI (2 ^ V 1 0 - 1) = nI (swN V none) from rfl, learn_C hT hB hL hl5 (swN_lt hB hw) hh]
          exact out_ok h
      · rw [e3, e4]
        exact out_no h (by decide) m1
    rw [e1, e2]
    simp only [Option.bind_some, n10, ↓reduceIte]
    by_cases c : v2 = -1
    · rw [if_pos c, if_pos c]
      exact key none 1 (fun w q => by cases q) c (Or.inr ⟨rfl, rfl⟩)
    · rw [if_neg c, if_neg c]
      rcases wys hT hM hB v2 with ⟨w, hw, hv, e3, e4⟩ | ⟨e3, e4⟩
      · rw [e3, e4]
        simp only [Option.bind_some, n10, ↓reduceIte]
        exact key (some w) 0 (fun x q => by cases q; exact hw) hv (Or.inl ⟨rfl, w, rfl⟩)
      · rw [e3, e4]
        exact out_no h (by decide) m1
  · rw [e1, e2]
    simp only [Option.bind_some, ↓reduceIte, ite_self]
    exact out_no h (by decide) m1
theorem q_drawnWay {Z : Nat → OS} {S : OS} (h : Rel Z S) (v1 v2 v3 : Int32) : Out (f_X7_drawnWay Z v1 v2 v3) (f_X8_drawnWay S v1 v2 v3) := by
  obtain ⟨V, ⟨hT, hM, hB, hL⟩, -⟩ := id h
  have h5 := hB.2.2.1
  have h6 := hB.2.1
  unfold f_X7_drawnWay f_X8_drawnWay
  rcases lrn hT hM hB v1 with ⟨l, hl, rfl, e1, e2⟩ | ⟨e1, e2⟩
  · have hl5 : l < 5 := by omega
    rw [e1, e2]
    simp only [Option.bind_some, n10, ↓reduceIte]
    rcases hrs v2 with ⟨hr, hh, rfl, e3, e4⟩ | ⟨e3, e4⟩
    · rw [e3, e4]
      simp only [Option.bind_some, n10, ↓reduceIte]
      have hwl := wp_lt hB (sk := V 10 l) (kn := V 11 l) (h := hr) (lm := V 4 0)
      have hpc := pc_le 8 (wp V (V 10 l) (V 11 l) hr (V 4 0))
      unfold j_X8_drawnWay_34
      simp only [↓reduceIte]
      rw [wpM hM hB hL hl5 hh, at_in hl5 (by decide), Option.bind_some, at_in hl5 (by decide), Option.bind_some, hT.2 10 (by decide) (by decide) l hl5, hT.2 11 (by decide) (by decide) l hl5, wp_C hT hB hL hh (hL.2.2.2 l hl5).1 (kn_lt hB hL hl5), Option.bind_some, Option.bind_some, bc_C _ hwl, bc_M _ hwl, Option.bind_some, Option.bind_some, hT.1 1 (by decide), hM.1 1 (by decide), nI_l (by omega), nI_l (by omega), part_C (by omega) (by omega), Option.bind_some]
      have key : ∀ v : Int32, v = 0 ∨ v = 1 → (if nI (V 1 0) = 0 then some (v.toInt64, S) else (f_X8_partOf (lN (pc 8 (wp V (V 10 l) (V 11 l) hr (V 4 0)))) (lN (V 1 0)) v).bind fun x6 => some (x6, S)) = some (ptA (pc 8 (wp V (V 10 l) (V 11 l) hr (V 4 0))) (V 1 0) v, S) := by
        intro v hv
        by_cases e0 : V 1 0 = 0
        · rw [e0, if_pos (by decide)]
          have : wp V (V 10 l) (V 11 l) hr (V 4 0) = 0 := by unfold wp; rw [e0]; rfl
          rw [this]
          rcases hv with rfl | rfl <;> rfl
        · rw [if_neg (nI_ne0 (by omega) (by omega)), part_M (by omega) (by omega) (by omega)]
          rfl
      rcases eit v3 with ⟨rfl, e, e'⟩ | ⟨rfl, e, e'⟩ | ⟨c0, c1, e, e'⟩
      · rw [e, e']
        simp only [Option.bind_some, n10, ↓reduceIte]
        rw [key 0 (Or.inl rfl)]; exact out_ok h
      · rw [e, e']
        simp only [Option.bind_some, n10, ↓reduceIte]
        rw [key 1 (Or.inr rfl)]; exact out_ok h
      · rw [e, e']; exact out_lo h (by decide) m2
    · rw [e3, e4]
      exact out_lo h (by decide) m1
  · rw [e1, e2]
    exact out_lo h (by decide) m1
theorem q_alike {Z : Nat → OS} {S : OS} (h : Rel Z S) (v1 v2 : Int32) : Out (f_X7_alike Z v1 v2) (f_X8_alike S v1 v2) := by
  obtain ⟨V, ⟨hT, hM, hB, hL⟩, -⟩ := id h
  unfold f_X7_alike f_X8_alike
  rcases wys hT hM hB v1 with ⟨a, ha, rfl, e1, e2⟩ | ⟨e1, e2⟩
  · rw [e1, e2]
    simp only [Option.bind_some, n10, ↓reduceIte]
    rcases wys hT hM hB v2 with ⟨b, hb, rfl, e3, e4⟩ | ⟨e3, e4⟩
    · rw [e3, e4]
      simp only [Option.bind_some, n10, ↓reduceIte]
      rw [shared_C hT hB ha hb, alike_M hM hB ha hb, Option.bind_some]
      by_cases c : nI a = nI b
      · rw [if_pos c, if_pos c]; exact out_no h (by decide) m1
      · rw [if_neg c, if_neg c]; exact out_ok h
    · rw [e3, e4]
      exact out_no h (by decide) m1
  · rw [e1, e2]
    exact out_no h (by decide) m1
/-- both answer the same and change nothing -/
def OutP (a b : Option Int32) : Prop := ∃ r, a = some r ∧ b = some r
theorem q_mostAlike {Z : Nat → OS} {S : OS} (h : Rel Z S) : OutP (f_X7_mostAlike Z) (f_X8_mostAlike S) := by
  obtain ⟨V, ⟨hT, hM, hB, hL⟩, -⟩ := id h
  exact ⟨_, by unfold f_X7_mostAlike; rw [mal_C hT hB]; rfl, mal_M hM hB⟩
theorem q_unlike {Z : Nat → OS} {S : OS} (h : Rel Z S) : OutP (f_X7_unlike Z) (f_X8_unlike S) := by
  obtain ⟨V, ⟨hT, hM, hB, hL⟩, -⟩ := id h
  exact ⟨_, by unfold f_X7_unlike; rw [unl_C hT hB]; rfl, unl_M hM hB⟩
theorem q_equal {Z : Nat → OS} {S : OS} (h : Rel Z S) : OutP (f_X7_equal Z) (f_X8_equal S) := by
  obtain ⟨V, ⟨hT, hM, hB, hL⟩, -⟩ := id h
  exact ⟨_, by unfold f_X7_equal; rw [equal_C hT hB hL]; rfl, equal_M hM hB hL⟩
theorem q_limitWanted {Z : Nat → OS} {S : OS} (h : Rel Z S) : ∃ r, f_X7_limitWanted Z = some r ∧ f_X8_limitWanted S = some (r, S) := by
  obtain ⟨V, ⟨hT, hM, hB, hL⟩, -⟩ := id h
  exact ⟨_, by unfold f_X7_limitWanted; rw [lw_C hT hB hL]; rfl, limit_M hM hB hL⟩
