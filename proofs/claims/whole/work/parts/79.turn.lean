/-! PURE: what can be taken back -/
theorem ch_no {V : Nat → Nat → Nat} {Z : Nat → OS} {S : OS} {F : Nat → Int32} {p : Nat} (hh : Full V Z S) (hp9 : p < 9) (hp1 : (Z 4).1 1 = nI p) (hF : ∀ i, (i < 8 * p ∨ 8 * p + 8 ≤ i) → F i = (Z 4).2 2 i) {k : Nat} (hk : k < 7) {x : Int32} (hx : -x = nI k) (h0 : ¬ 0 ≤ x) : Out ((some (x, Z 1)).bind fun x2 => (f_X7_changed (upA (upA Z 1 x2.2) 4 (sa (Z 4) 2 F)) x2.1).bind fun x3 => some (x3.1, x3.2)) ((f_X8_no S x).bind fun y => some (y.1, y.2)) := by
  have zn : ∀ j, j ≠ 4 → upA Z 4 (sa (Z 4) 2 F) j = Z j := fun j hj => upA_n hj
  have hRel : Rel (upA Z 4 (sa (Z 4) 2 F)) S := Rel_new hh ⟨by rw [zn 1 (by decide)]; exact hh.1.1, hh.1.2.1, hh.1.2.2.1, hh.1.2.2.2⟩ (zn 0 (by decide)) (zn 2 (by decide)) (zn 5 (by decide)) (zn 6 (by decide)) ⟨rfl, rfl, rfl, rfl, rfl, rfl, fun _ _ => rfl⟩ (Past_hold hh.2.2.2.2.2 hp1 hp9 upA_s hF rfl rfl)
  rw [Option.bind_some]
  simp only [upA_id]
  unfold f_X7_changed
  rw [if_neg h0, ref_C hk hx, ref_M hk hx]
  exact out_ok (Rel_ref hRel hk)
/-- what keeping leaves on the reference's side -/
def Kpt (V : Nat → Nat → Nat) (n : Nat) (S S1 : OS) : Prop := S1.1 24 = nI (min (n + 1) 8) ∧ (∀ j, j ≠ 22 → j ≠ 23 → j ≠ 24 → S1.1 j = S.1 j) ∧ (∀ j, j ≠ 20 → S1.2 j = S.2 j) ∧ (∀ x, x < 92 → S1.2 20 x = S.2 20 x) ∧ (∀ j, j < min n 7 → ∀ x, x < 46 → S1.2 20 (46 * (2 + j) + x) = S.2 20 (46 * (2 + (j + (n - 7))) + x)) ∧ KP V (2 + min n 7) (S1.2 20)
theorem Kpt_MR {V : Nat → Nat → Nat} {n : Nat} {S S1 : OS} (h : Kpt V n S S1) (hM : MR V S) : MR V S1 := MR_cg hM (fun j _ _ => h.2.1 j (by omega) (by omega) (by omega)) (fun j _ _ => h.2.2.1 j (by omega))
/-- only the town changed -/
def OT (S S' : OS) : Prop := (∀ j, (j < 7 ∨ 12 < j) → S'.1 j = S.1 j) ∧ ∀ j, (j = 0 ∨ 6 < j) → S'.2 j = S.2 j
theorem ch_yes {V V' : Nat → Nat → Nat} {Z : Nat → OS} {S S1 S' T' : OS} {F : Nat → Int32} {n p r : Nat} (hh : Full V Z S) (hn1 : (Z 4).1 0 = nI n) (hn8 : n ≤ 8) (hp9 : p < 9) (hp1 : (Z 4).1 1 = nI p) (hF0 : HD V p F) (hF : ∀ i, (i < 8 * p ∨ 8 * p + 8 ≤ i) → F i = (Z 4).2 2 i) (hK : Kpt V n S S1) (hO : OT S1 S') (hT : TR V' T') (hM : MR V' S') (hB : WB V') (hL : WL V') (hV : Same V V') (hr : r < 2 ^ 31) : Out ((some (nI r, T')).bind fun x2 => (f_X7_changed (upA (upA Z 1 x2.2) 4 (sa (Z 4) 2 F)) x2.1).bind fun x3 => some (x3.1, x3.2)) (some (nI r, S')) := by
  obtain ⟨k1, k2, k3, k4, k5, k6⟩ := hK
  obtain ⟨o1, o2⟩ := hO
  have hkeep : f_X4_keep (sa (Z 4) 2 F) = some (su (su (sa (Z 4) 2 F) 1 (nI ((p + 1) % 9))) 0 (nI (min (n + 1) 8))) := by
    unfold f_X4_keep
    rw [show (sa (Z 4) 2 F).1 1 = nI p from hp1, show (sa (Z 4) 2 F).1 0 = nI n from hn1, nI_1, nI_1, show (9 : Int32) = nI 9 from rfl, rem_nI (by omega) (by decide) (by decide), show (8 : Int32) = nI 8 from rfl, min_nI (by omega) (by decide)]
  have z4 : upA (upA (upA Z 1 T') 4 (sa (Z 4) 2 F)) 4 (su (su (sa (Z 4) 2 F) 1 (nI ((p + 1) % 9))) 0 (nI (min (n + 1) 8))) 4 = su (su (sa (Z 4) 2 F) 1 (nI ((p + 1) % 9))) 0 (nI (min (n + 1) 8)) := upA_s
  have zn : ∀ j, j ≠ 1 → j ≠ 4 → upA (upA (upA Z 1 T') 4 (sa (Z 4) 2 F)) 4 (su (su (sa (Z 4) 2 F) 1 (nI ((p + 1) % 9))) 0 (nI (min (n + 1) 8))) j = Z j := fun j q1 q2 => by rw [upA_n q2, upA_n q2, upA_n q1]
  have e5 : S'.1 24 = S1.1 24 := o1 24 (by omega)
  have e6 : S'.2 20 = S1.2 20 := o2 20 (by omega)
  have hRel : Rel (upA (upA (upA Z 1 T') 4 (sa (Z 4) 2 F)) 4 (su (su (sa (Z 4) 2 F) 1 (nI ((p + 1) % 9))) 0 (nI (min (n + 1) 8)))) S' :=
    Rel_new hh ⟨by rw [upA_n (by decide), upA_n (by decide), upA_s]; exact hT, hM, hB, hL⟩ (zn 0 (by decide) (by decide)) (zn 2 (by decide) (by decide)) (zn 5 (by decide) (by decide)) (zn 6 (by decide) (by decide)) ⟨by rw [o2 0 (by omega), k3 0 (by decide)], by rw [o1 17 (by omega), k2 17 (by decide) (by decide) (by decide)], by rw [o2 13 (by omega), k3 13 (by decide)], by rw [o1 26 (by omega), k2 26 (by decide) (by decide) (by decide)], by rw [o2 25 (by omega), k3 25 (by decide)], by rw [o1 21 (by omega), k2 21 (by decide) (by decide) (by decide)], fun k hk => by rw [e6, k4 k (by omega)]⟩ (Past_keep hh.2.2.2.2.2 hV hh.1.2.2.1 hh.1.2.2.2 hn1 hn8 hp1 hp9 z4 hF0 hF k1 k5 k6 e5 e6)
  rw [Option.bind_some]
  unfold f_X7_changed
  rw [if_pos (nI_pos' hr)]
  simp only [upA_s]
  rw [hkeep]
  exact out_ok hRel
/-- another set known -/
theorem kn_T {V : Nat → Nat → Nat} {T : OS} (hT : TR V T) {l x : Nat} : TR (upA V 11 (upA (V 11) l x)) (sa T 11 (upd (T.2 11) l (nI x))) := TR_sa hT (by decide)
theorem kn_M {V : Nat → Nat → Nat} {S : OS} (hM : MR V S) {l x : Nat} : MR (upA V 11 (upA (V 11) l x)) (sa S 6 (upd (S.2 6) l (nI x))) := MR_sai (i := 11) hM (by decide)
theorem kn_WB {V : Nat → Nat → Nat} (hB : WB V) {l x : Nat} : WB (upA V 11 (upA (V 11) l x)) := hB
theorem kn_WL {V : Nat → Nat → Nat} (hL : WL V) {l x : Nat} (hx : x < 2 ^ V 0 0) : WL (upA V 11 (upA (V 11) l x)) := by
  obtain ⟨l1, l2, l3, l4⟩ := hL
  refine ⟨l1, l2, l3, fun m hm => ⟨(l4 m hm).1, ?_⟩⟩
  show upA (V 11) l x m < 2 ^ V 0 0
  by_cases e : m = l
  · subst e; rw [upA_s]; exact hx
  · rw [upA_n e]; exact (l4 m hm).2
theorem kn_S {V : Nat → Nat → Nat} {l x : Nat} : Same V (upA V 11 (upA (V 11) l x)) := ⟨fun i hi => by rw [upA_n (by omega)], fun i h1 h2 k _ => by rw [upA_n (by omega)]⟩
theorem kn_O {S : OS} {f : Nat → Int32} : OT S (sa S 6 f) := ⟨fun _ _ => rfl, fun j hj => sa_n (by omega)⟩
theorem q_tests {Z : Nat → OS} {S : OS} (h : Rel Z S) (v1 v2 : Int32) : Out (f_X7_tests Z v1 v2) (f_X8_tests S v1 v2) := by
  obtain ⟨V, hh⟩ := id h
  obtain ⟨⟨hT, hM, hB, hL⟩, -, -, -, -, n, p, B, n8, p9, pn, rn, pp, -⟩ := id hh
  have h5 := hB.2.2.1
  obtain ⟨F, f0, f1, f2⟩ := hold_C hT p9 pp
  obtain ⟨S1, s0, s1⟩ := keeps_M hM n8 rn
  have hM1 := Kpt_MR s1 hM
  unfold f_X7_tests f_X8_tests
  rw [f0, Option.bind_some]
  rcases lrn hT hM hB v1 with ⟨l, hl, rfl, e1, e2⟩ | ⟨e1, e2⟩
  · have hl5 : l < 5 := by omega
    rw [e2, Option.bind_some, if_neg n10]
    rcases wys hT hM hB v2 with ⟨w, hw, rfl, e3, e4⟩ | ⟨e3, e4⟩
    · have hth := hB.2.2.2.2 w hw
      have hkn := (hL.2.2.2 l hl5).2
      have hx : V 11 l ||| V 9 w < 2 ^ V 0 0 := Nat.or_lt_two_pow hkn hth.2
      have hw6 := hB.2.1
      have eC : f_X6_test (Z 1) (nI l) (nI w) = some (nI (if paB V (V 9 w) (V 10 l) (V 11 l) (V 3 0) (V 4 0) = true then 1 else 0), sa (Z 1) 11 (upd ((Z 1).2 11) l (nI (V 11 l ||| V 9 w)))) := by
        unfold f_X6_test j_X6_test_36
        rw [e1, Option.bind_some, if_neg n10, e3, Option.bind_some, if_neg n10, hT.1 3 (by decide), pa_C hT hB hL hl5 hw hL.1, Option.bind_some, if_bI]
        simp only [at_in hl5 (show 5 < 2 ^ 31 by decide), way_C hT hB hw, Option.bind_some, hT.2 11 (by decide) (by decide) l hl5, or_nI, store_in hl5 (show 5 < 2 ^ 31 by decide)]
        split <;> rfl
      have eM : (f_X8_keepsBack S).bind (fun x4 => (f_X8_passesWay x4 (nI l) (nI w) (x4.1 10)).bind fun x5 => if x5 = 0 then (j_X8_tests_44 (nI l) (nI w) (0 : Int32) x4) else (j_X8_tests_44 (nI l) (nI w) (1 : Int32) x4)) = some (nI (if paB V (V 9 w) (V 10 l) (V 11 l) (V 3 0) (V 4 0) = true then 1 else 0), sa S1 6 (upd (S1.2 6) l (nI (V 11 l ||| V 9 w)))) := by
        rw [s0, Option.bind_some, show S1.1 10 = nI (V 3 0) from hM1.1 3 (by decide), pwM hM1 hB hL hl5 hw hL.1, Option.bind_some, if_bI]
        unfold j_X8_tests_44
        simp only [inb_nI hl5 (show 5 < 2 ^ 31 by decide), nI_clamp (show l < 2 ^ 31 by omega), ↓reduceIte, ibw hB hw, thM hM1 hB hw, show S1.2 6 l = nI (V 11 l) from hM1.2 11 (by decide) (by decide) l hl5, or_nI]
        split <;> rfl
      rw [e4, Option.bind_some, if_neg n10, eC, eM]
      exact ch_yes hh pn n8 p9 pp f1 f2 s1 kn_O (kn_T hT) (kn_M hM1) (kn_WB hB) (kn_WL hL hx) kn_S (by split <;> decide)
    · rw [e4, Option.bind_some, if_pos rfl]
      rw [show f_X6_test (Z 1) (nI l) v2 = some (-1, Z 1) by unfold f_X6_test; rw [e1, Option.bind_some, if_neg n10, e3, Option.bind_some, if_pos rfl]]
      exact ch_no hh p9 pp f2 (by decide) m1 (by decide)
  · rw [e2, Option.bind_some, if_pos rfl]
    rw [show f_X6_test (Z 1) v1 v2 = some (-1, Z 1) by unfold f_X6_test; rw [e1, Option.bind_some, if_pos rfl]]
    exact ch_no hh p9 pp f2 (by decide) m1 (by decide)
theorem q_knows {Z : Nat → OS} {S : OS} (h : Rel Z S) (v1 v2 : Int32) : Out (f_X7_knows Z v1 v2) (f_X8_knows S v1 v2) := by
  obtain ⟨V, hh⟩ := id h
  obtain ⟨⟨hT, hM, hB, hL⟩, -, -, -, -, n, p, B, n8, p9, pn, rn, pp, -⟩ := id hh
  have h5 := hB.2.2.1
  have h8 := hB.1
  obtain ⟨F, f0, f1, f2⟩ := hold_C hT p9 pp
  obtain ⟨S1, s0, s1⟩ := keeps_M hM n8 rn
  have hM1 := Kpt_MR s1 hM
  unfold f_X7_knows f_X8_knows
  rw [f0, Option.bind_some]
  rcases lrn hT hM hB v1 with ⟨l, hl, rfl, e1, e2⟩ | ⟨e1, e2⟩
  · have hl5 : l < 5 := by omega
    rw [e2, Option.bind_some, if_neg n10]
    rcases sts hT hM hB v2 with ⟨s, hs, rfl, e3, e4⟩ | ⟨e3, e4⟩
    · have hkn := (hL.2.2.2 l hl5).2
      have hx : V 11 l ^^^ 2 ^ s < 2 ^ V 0 0 := Nat.xor_lt_two_pow hkn (Nat.pow_lt_pow_right (by decide) hs)
      have hx31 : V 11 l ^^^ 2 ^ s < 2 ^ 31 := Nat.lt_of_lt_of_le hx (Nat.pow_le_pow_right (by decide) (by omega))
      have eC : f_X6_turnKnown (Z 1) (nI l) (nI s) = some (nI (if (V 11 l ^^^ 2 ^ s).testBit s = true then 1 else 0), sa (Z 1) 11 (upd ((Z 1).2 11) l (nI (V 11 l ^^^ 2 ^ s)))) := by
        unfold f_X6_turnKnown
        rw [e1, Option.bind_some, if_neg n10, e3, Option.bind_some, if_neg n10, at_in hl5 (by decide), Option.bind_some, hT.2 11 (by decide) (by decide) l hl5, sh1 s (by omega), xor_nI, store_in hl5 (by decide), Option.bind_some, has_C hx31 (by omega), Option.bind_some, if_bI]
        split <;> rfl
      rw [e4, Option.bind_some, if_neg n10, eC, s0]
      simp only [Option.bind_some (a := S1), inb_nI hl5 (show 5 < 2 ^ 31 by decide), nI_clamp (show l < 2 ^ 31 by omega), ↓reduceIte, show S1.2 6 l = nI (V 11 l) from hM1.2 11 (by decide) (by decide) l hl5, upd_s]
      rw [sh1 s (by omega), xor_nI, bit_nI hx31 (by omega), show bI ((V 11 l ^^^ 2 ^ s).testBit s) = nI (if (V 11 l ^^^ 2 ^ s).testBit s = true then 1 else 0) by unfold bI; split <;> rfl]
      exact ch_yes hh pn n8 p9 pp f1 f2 s1 kn_O (kn_T hT) (kn_M hM1) (kn_WB hB) (kn_WL hL hx) kn_S (by split <;> decide)
    · rw [e4, Option.bind_some, if_pos rfl]
      rw [show f_X6_turnKnown (Z 1) (nI l) v2 = some (-1, Z 1) by unfold f_X6_turnKnown; rw [e1, Option.bind_some, if_neg n10, e3, Option.bind_some, if_pos rfl]]
      exact ch_no hh p9 pp f2 (by decide) m1 (by decide)
  · rw [e2, Option.bind_some, if_pos rfl]
    rw [show f_X6_turnKnown (Z 1) v1 v2 = some (-1, Z 1) by unfold f_X6_turnKnown; rw [e1, Option.bind_some, if_pos rfl]]
    exact ch_no hh p9 pp f2 (by decide) m1 (by decide)
theorem q_sets {Z : Nat → OS} {S : OS} (h : Rel Z S) (v1 v2 : Int32) : Out (f_X7_sets Z v1 v2) (f_X8_sets S v1 v2) := by
  obtain ⟨V, hh⟩ := id h
  obtain ⟨⟨hT, hM, hB, hL⟩, -, -, -, -, n, p, B, n8, p9, pn, rn, pp, -⟩ := id hh
  obtain ⟨F, f0, f1, f2⟩ := hold_C hT p9 pp
  obtain ⟨S1, s0, s1⟩ := keeps_M hM n8 rn
  have hM1 := Kpt_MR s1 hM
  obtain ⟨l1, l2, l3, l4⟩ := id hL
  have no : ∀ x : Int32, ¬ x = 0 → j_X8_sets_30 v1 v2 x S = (f_X8_no S x).bind fun y => some (y.1, y.2) := by
    intro x hx
    unfold j_X8_sets_30
    rw [if_neg hx]
  unfold f_X7_sets f_X8_sets j_X8_sets_27
  rw [f0, Option.bind_some]
  rcases eit v1 with ⟨rfl, e, e'⟩ | ⟨rfl, e, e'⟩ | ⟨c0, c1, e, e'⟩
  · rw [e', Option.bind_some, if_neg n10, if_pos rfl]
    rcases bnd3 (lo := 0) (hi := 23) (by decide) (by decide) v2 with ⟨j, -, hj, rfl, b1, b2, b3⟩ | ⟨b1, b2, b3⟩ | ⟨b1, b3⟩
    · have eC : f_X6_change (Z 1) 0 (nI j) = some (nI (V 3 0), su (Z 1) 3 (nI j)) := by
        unfold f_X6_change j_X6_change_29 j_X6_change_50
        rw [e, Option.bind_some, if_neg n10, if_pos (show (0 : Int32) ≤ nI j from b1), if_pos rfl, if_pos (show nI j ≤ (23 : Int32) from b2), if_pos rfl, if_pos rfl, hT.1 3 (by decide)]
      have eM : j_X8_sets_30 0 (nI j) 0 S = some (nI (V 3 0), su S1 10 (nI j)) := by
        unfold j_X8_sets_30 j_X8_sets_60
        rw [if_pos rfl, s0, Option.bind_some, if_pos rfl, if_pos rfl, show S1.1 10 = nI (V 3 0) from hM1.1 3 (by decide)]
      rw [show f_X8_bound (nI j) 0 23 = some 0 from b3, Option.bind_some, eC, eM]
      exact ch_yes hh pn n8 p9 pp f1 f2 s1 ⟨fun j hj => su_n (by omega), fun _ _ => rfl⟩ (TR_su hT (by decide)) (MR_sui (i := 3) hM1 (by decide)) hB ⟨show j < 24 by omega, l2, l3, l4⟩ ⟨fun i hi => by rw [upA_n (by omega)], fun i q1 q2 k _ => by rw [upA_n (by omega)]⟩ (by omega)
    · rw [show f_X8_bound v2 0 23 = some (-6) from b3, Option.bind_some, no _ (by decide)]
      rw [show f_X6_change (Z 1) 0 v2 = some (-6, Z 1) by
        unfold f_X6_change j_X6_change_29
        rw [e, Option.bind_some, if_neg n10, if_pos (show (0 : Int32) ≤ v2 from b1), if_pos rfl, if_neg (show ¬ v2 ≤ (23 : Int32) from b2)]]
      exact ch_no hh p9 pp f2 (by decide) m6 (by decide)
    · rw [show f_X8_bound v2 0 23 = some (-4) from b3, Option.bind_some, no _ (by decide)]
      rw [show f_X6_change (Z 1) 0 v2 = some (-4, Z 1) by
        unfold f_X6_change
        rw [e, Option.bind_some, if_neg n10, if_neg (show ¬ (0 : Int32) ≤ v2 from b1)]]
      exact ch_no hh p9 pp f2 (by decide) m4 (by decide)
  · rw [e', Option.bind_some, if_neg n10, if_neg n10]
    rcases bnd3 (lo := 0) (hi := 99) (by decide) (by decide) v2 with ⟨j, -, hj, rfl, b1, b2, b3⟩ | ⟨b1, b2, b3⟩ | ⟨b1, b3⟩
    · have eC : f_X6_change (Z 1) 1 (nI j) = some (nI (V 4 0), su (Z 1) 4 (nI j)) := by
        unfold f_X6_change j_X6_change_29 j_X6_change_50
        rw [e, Option.bind_some, if_neg n10, if_pos (show (0 : Int32) ≤ nI j from b1), if_neg n10, if_pos (show nI j ≤ (99 : Int32) from b2), if_neg n10, if_neg n10, hT.1 4 (by decide)]
      have eM : j_X8_sets_30 1 (nI j) 0 S = some (nI (V 4 0), su S1 11 (nI j)) := by
        unfold j_X8_sets_30 j_X8_sets_60
        rw [if_pos rfl, s0, Option.bind_some, if_neg n10, if_neg n10, show S1.1 11 = nI (V 4 0) from hM1.1 4 (by decide)]
      rw [show f_X8_bound (nI j) 0 99 = some 0 from b3, Option.bind_some, eC, eM]
      exact ch_yes hh pn n8 p9 pp f1 f2 s1 ⟨fun j hj => su_n (by omega), fun _ _ => rfl⟩ (TR_su hT (by decide)) (MR_sui (i := 4) hM1 (by decide)) hB ⟨l1, hj, l3, l4⟩ ⟨fun i hi => by rw [upA_n (by omega)], fun i q1 q2 k _ => by rw [upA_n (by omega)]⟩ (by omega)
    · rw [show f_X8_bound v2 0 99 = some (-6) from b3, Option.bind_some, no _ (by decide)]
      rw [show f_X6_change (Z 1) 1 v2 = some (-6, Z 1) by
        unfold f_X6_change j_X6_change_29
        rw [e, Option.bind_some, if_neg n10, if_pos (show (0 : Int32) ≤ v2 from b1), if_neg n10, if_neg (show ¬ v2 ≤ (99 : Int32) from b2)]]
      exact ch_no hh p9 pp f2 (by decide) m6 (by decide)
    · rw [show f_X8_bound v2 0 99 = some (-4) from b3, Option.bind_some, no _ (by decide)]
      rw [show f_X6_change (Z 1) 1 v2 = some (-4, Z 1) by
        unfold f_X6_change
        rw [e, Option.bind_some, if_neg n10, if_neg (show ¬ (0 : Int32) ≤ v2 from b1)]]
      exact ch_no hh p9 pp f2 (by decide) m4 (by decide)
  · rw [e', Option.bind_some, if_pos rfl, no _ (by decide)]
    rw [show f_X6_change (Z 1) v1 v2 = some (-2, Z 1) by
      unfold f_X6_change
      rw [e, Option.bind_some, if_pos rfl]]
    exact ch_no hh p9 pp f2 (by decide) m2 (by decide)
