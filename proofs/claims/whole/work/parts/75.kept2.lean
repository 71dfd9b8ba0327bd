/-! PURE: what is kept: taken back, held -/
def LDD (S0 : OS) (b m : Nat) (S : OS) : Prop := S.1 22 = 0 ∧ S.1 23 = nI (46 * b + m) ∧ (∀ j, (j < 7 ∨ 12 < j) → j ≠ 22 → j ≠ 23 → S.1 j = S0.1 j) ∧ (∀ j, (j = 0 ∨ 7 ≤ j) → S.2 j = S0.2 j) ∧ (∀ i, 6 ≤ i → i < 12 → ∀ k, k < lnT i → ofK i + k < m → S.2 (i - 5) k = S0.2 20 (46 * b + ofK i + k)) ∧ (∀ i, i < 6 → 40 + i < m → S.1 (i + 7) = S0.2 20 (46 * b + 40 + i))
theorem LDD_row {S0 S : OS} {b i : Nat} (hb : b ≤ 9) (h1 : 6 ≤ i) (h2 : i < 12) (h : LDD S0 b (ofK i) S) : ∃ S', Lp2 (pB (i - 5) (lnT i)) FU 0 S = some S' ∧ LDD S0 b (ofK i + lnT i) S' := by
  obtain ⟨s1, s2, s3, s4, s5, s6⟩ := h
  have hi := ofK_in h1 h2
  obtain ⟨S', e0, e1, e2, e3, e4⟩ := pB_load (S := S) (a := i - 5) (N := lnT i) (c := 46 * b + ofK i) (by omega) (by omega) (by omega) s1 s2
  refine ⟨S', e0, by rw [e2 22 (by decide)]; exact s1, by rw [e1, Nat.add_assoc], fun j j1 j2 j3 => by rw [e2 j j3]; exact s3 j j1 j2 j3, fun j hj => by rw [e3 j (by omega)]; exact s4 j hj, fun x x1 x2 k hk hm => ?_, fun x hx hm => by omega⟩
  have hx := ofK_in x1 x2
  by_cases ex : x = i
  · subst ex
    rw [e4 k hk, s4 20 (by decide)]
  · rw [e3 _ (by omega)]
    exact s5 x x1 x2 k hk (by omega)
theorem LDD_one {S0 S : OS} {b i : Nat} {v : Int32} (hb : b ≤ 9) (h2 : i < 6) (h : LDD S0 b (40 + i) S) : ∃ y S', f_X8_passOne S v = some (y, S') ∧ LDD S0 b (40 + i + 1) (su S' (i + 7) y) := by
  obtain ⟨s1, s2, s3, s4, s5, s6⟩ := h
  refine ⟨_, _, one_load (by omega) s1 s2, by rw [su_n (by omega), su_n (by decide)]; exact s1, by rw [su_n (by omega), su_s, Nat.add_assoc], fun j j1 j2 j3 => by rw [su_n (by omega), su_n j3]; exact s3 j j1 j2 j3, fun j hj => s4 j hj, fun x x1 x2 k hk hm => ?_, fun x hx hm => ?_⟩
  · have hx := ofK_in x1 x2
    exact s5 x x1 x2 k hk (by omega)
  · by_cases ex : x = i
    · subst ex
      rw [su_s, s4 20 (by decide)]
      exact congrArg (S0.2 20) (by omega)
    · rw [su_n (by omega), su_n (by omega)]
      exact s6 x hx (by omega)
theorem load_M {S : OS} {b : Nat} (hb : b ≤ 9) : ∃ S', f_X8_passesAll S (nI b) 0 = some S' ∧ LDD S b 46 S' := by
  have h0 : LDD S b (ofK 6) (su (su S 23 ((46 : Int32) * nI b)) 22 0) := by
    refine ⟨su_s, ?_, fun j j1 j2 j3 => by rw [su_n j2, su_n j3], fun j hj => rfl, fun x x1 x2 k hk hm => ?_, fun x hx hm => ?_⟩
    · rw [su_n (by decide), su_s, show (46 : Int32) = nI 46 from rfl, pk_mul]; rfl
    · rw [show ofK 6 = 0 from rfl] at hm; omega
    · rw [show ofK 6 = 0 from rfl] at hm; omega
  obtain ⟨S1, a1, h1⟩ := LDD_row hb (by decide) (by decide) h0
  obtain ⟨S2, a2, h2⟩ := LDD_row (i := 7) hb (by decide) (by decide) h1
  obtain ⟨S3, a3, h3⟩ := LDD_row (i := 8) hb (by decide) (by decide) h2
  obtain ⟨S4, a4, h4⟩ := LDD_row (i := 9) hb (by decide) (by decide) h3
  obtain ⟨S5, a5, h5⟩ := LDD_row (i := 10) hb (by decide) (by decide) h4
  obtain ⟨S6, a6, h6⟩ := LDD_row (i := 11) hb (by decide) (by decide) h5
  obtain ⟨y1, S7, b1, g1⟩ := LDD_one (i := 0) (v := S6.1 7) hb (by decide) h6
  obtain ⟨y2, S8, b2, g2⟩ := LDD_one (i := 1) (v := S7.1 8) hb (by decide) g1
  obtain ⟨y3, S9, b3, g3⟩ := LDD_one (i := 2) (v := S8.1 9) hb (by decide) g2
  obtain ⟨y4, SA, b4, g4⟩ := LDD_one (i := 3) (v := S9.1 10) hb (by decide) g3
  obtain ⟨y5, SB, b5, g5⟩ := LDD_one (i := 4) (v := SA.1 11) hb (by decide) g4
  obtain ⟨y6, SC, b6, g6⟩ := LDD_one (i := 5) (v := SB.1 12) hb (by decide) g5
  refine ⟨_, ?_, g6⟩
  unfold f_X8_passesAll f_X8_passes_1 f_X8_passes_2 f_X8_passes_3 f_X8_passes_4 f_X8_passes_5 f_X8_passes_6
  rw [if_pos (by decide : isB 0 = true), pB_1, pB_2, pB_3, pB_4, pB_5, pB_6]
  rw [show Lp2 (pB 1 8) FU 0 _ = _ from a1, Option.bind_some, show Lp2 (pB 2 8) FU 0 S1 = _ from a2, Option.bind_some, show Lp2 (pB 3 8) FU 0 S2 = _ from a3, Option.bind_some, show Lp2 (pB 4 6) FU 0 S3 = _ from a4, Option.bind_some, show Lp2 (pB 5 5) FU 0 S4 = _ from a5, Option.bind_some, show Lp2 (pB 6 5) FU 0 S5 = _ from a6, Option.bind_some]
  rw [b1, Option.bind_some]
  simp only []
  rw [show f_X8_passOne (su S7 7 y1) (S7.1 8) = _ from b2, Option.bind_some]
  simp only []
  rw [show f_X8_passOne (su S8 8 y2) (S8.1 9) = _ from b3, Option.bind_some]
  simp only []
  rw [show f_X8_passOne (su S9 9 y3) (S9.1 10) = _ from b4, Option.bind_some]
  simp only []
  rw [show f_X8_passOne (su SA 10 y4) (SA.1 11) = _ from b5, Option.bind_some]
  simp only []
  rw [show f_X8_passOne (su SB 11 y5) (SB.1 12) = _ from b6, Option.bind_some]
theorem LDD_MR {U : Nat → Nat → Nat} {S0 S : OS} {b : Nat} (h : LDD S0 b 46 S) (hK : KP U b (S0.2 20)) : MR U S := by
  obtain ⟨s1, s2, s3, s4, s5, s6⟩ := h
  refine ⟨fun i hi => by rw [s6 i hi (by omega)]; exact hK.1 i hi, fun i h1 h2 k hk => ?_⟩
  have hi := ofK_in h1 h2
  rw [s5 i h1 h2 k hk (by omega)]
  exact hK.2 i h1 h2 k hk
theorem SVD_KP {V : Nat → Nat → Nat} {S0 S : OS} {b : Nat} (h : SVD S0 b 46 S) (hM : MR V S0) : KP V b (S.2 20) := by
  obtain ⟨s1, s2, s3, s4, s5, s6, s7⟩ := h
  refine ⟨fun i hi => by rw [s6 i hi (by omega)]; exact hM.1 i hi, fun i h1 h2 k hk => ?_⟩
  have hi := ofK_in h1 h2
  rw [s5 i h1 h2 k hk (by omega)]
  exact hM.2 i h1 h2 k hk
theorem MR_cg {V : Nat → Nat → Nat} {S S' : OS} (h : MR V S) (e1 : ∀ j, 7 ≤ j → j < 13 → S'.1 j = S.1 j) (e2 : ∀ j, 1 ≤ j → j < 7 → S'.2 j = S.2 j) : MR V S' :=
  ⟨fun i hi => by rw [e1 _ (by omega) (by omega)]; exact h.1 i hi, fun i h1 h2 k hk => by rw [e2 _ (by omega) (by omega)]; exact h.2 i h1 h2 k hk⟩
/-! the class -/
theorem crow_row {N : Nat} {f0 f1 : Nat → Int32} (hN : N ≤ 8) : ∃ F, f_X7_copyRow N f0 N f1 (nI N) = some F ∧ ∀ k, k < N → F k = f0 k := by
  unfold f_X7_copyRow
  refine lp_in2 N (fun i s (f : Nat → Int32) => s = nI i ∧ ∀ k, k < i → f k = f0 k) (fun r => ∃ F : Nat → Int32, r = some F ∧ ∀ k, k < N → F k = f0 k) ?_ FU 0 _ _ (Nat.zero_le _) ⟨rfl, fun k hk => by omega⟩ (by rw [FU_1000]; omega)
  rintro k i s f hi ⟨rfl, hf⟩
  unfold b_X7_copyRow_2
  by_cases e : i = N
  · left
    subst e
    rw [if_pos (nI_le (Nat.le_refl _) (by omega))]
    exact ⟨f, rfl, hf⟩
  · have hlt : i < N := by omega
    rw [if_neg (nI_ge hlt (by omega)), at_in hlt (by omega), Option.bind_some, store_in hlt (by omega), Option.bind_some, show nI i + (1 : Int32) = nI (i + 1) from nI_1 i]
    refine Or.inr ⟨hlt, _, _, ⟨rfl, fun j hj => ?_⟩, rfl⟩
    by_cases ej : j = i
    · subst ej; rw [upd_s]
    · rw [upd_n ej]; exact hf j (by omega)
theorem copy_C {V : Nat → Nat → Nat} {T T2 : OS} (hT : TR V T2) : ∃ T', f_X6_copyFrom T T2 = some T' ∧ TR V T' := by
  obtain ⟨F6, a6, b6⟩ := crow_row (N := 8) (f0 := T2.2 6) (f1 := T.2 6) (by decide)
  obtain ⟨F7, a7, b7⟩ := crow_row (N := 8) (f0 := T2.2 7) (f1 := T.2 7) (by decide)
  obtain ⟨F8, a8, b8⟩ := crow_row (N := 8) (f0 := T2.2 8) (f1 := T.2 8) (by decide)
  obtain ⟨F9, a9, b9⟩ := crow_row (N := 6) (f0 := T2.2 9) (f1 := T.2 9) (by decide)
  obtain ⟨FA, aA, bA⟩ := crow_row (N := 5) (f0 := T2.2 10) (f1 := T.2 10) (by decide)
  obtain ⟨FB, aB, bB⟩ := crow_row (N := 5) (f0 := T2.2 11) (f1 := T.2 11) (by decide)
  refine ⟨sa (sa (sa (sa (sa (sa (su (su (su (su (su (su T 0 (T2.1 0)) 1 (T2.1 1)) 2 (T2.1 2)) 3 (T2.1 3)) 4 (T2.1 4)) 5 (T2.1 5)) 6 F6) 7 F7) 8 F8) 9 F9) 10 FA) 11 FB, ?_, ?_⟩
  · unfold f_X6_copyFrom
    rw [show f_X7_copyRow 8 (T2.2 6) 8 (T.2 6) 8 = _ from a6, Option.bind_some, show f_X7_copyRow 8 (T2.2 7) 8 (T.2 7) 8 = _ from a7, Option.bind_some, show f_X7_copyRow 8 (T2.2 8) 8 (T.2 8) 8 = _ from a8, Option.bind_some, show f_X7_copyRow 6 (T2.2 9) 6 (T.2 9) 6 = _ from a9, Option.bind_some, show f_X7_copyRow 5 (T2.2 10) 5 (T.2 10) 5 = _ from aA, Option.bind_some, show f_X7_copyRow 5 (T2.2 11) 5 (T.2 11) 5 = _ from aB, Option.bind_some]
  · refine ⟨fun i hi => ?_, fun i h1 h2 k hk => ?_⟩
    · rcases (by omega : i = 0 ∨ i = 1 ∨ i = 2 ∨ i = 3 ∨ i = 4 ∨ i = 5) with q | q | q | q | q | q <;> subst q <;> simp only [sa, su, upd] <;> exact hT.1 _ (by decide)
    · rcases (by omega : i = 6 ∨ i = 7 ∨ i = 8 ∨ i = 9 ∨ i = 10 ∨ i = 11) with q | q | q | q | q | q
      · subst q; exact (b6 k hk).trans (hT.2 6 h1 h2 k hk)
      · subst q; exact (b7 k hk).trans (hT.2 7 h1 h2 k hk)
      · subst q; exact (b8 k hk).trans (hT.2 8 h1 h2 k hk)
      · subst q; exact (b9 k hk).trans (hT.2 9 h1 h2 k hk)
      · subst q; exact (bA k hk).trans (hT.2 10 h1 h2 k hk)
      · subst q; exact (bB k hk).trans (hT.2 11 h1 h2 k hk)
theorem hold_C {V : Nat → Nat → Nat} {P T : OS} {p : Nat} (hT : TR V T) (hp : p < 9) (h1 : P.1 1 = nI p) : ∃ F, f_X4_hold P T = some (sa P 2 F) ∧ HD V p F ∧ ∀ i, (i < 8 * p ∨ 8 * p + 8 ≤ i) → F i = P.2 2 i := by
  unfold f_X4_hold
  rw [h1, show (8 : Int32) = nI 8 from rfl, pk_mul, store_in (by omega : p * 8 < 72) (by decide), Option.bind_some, show nI (p * 8) + (1 : Int32) = nI (p * 8 + 1) from nI_1 _, store_in (by omega : p * 8 + 1 < 72) (by decide), Option.bind_some, show nI (p * 8) + (2 : Int32) = nI (p * 8 + 2) from nI_add _ 2, store_in (by omega : p * 8 + 2 < 72) (by decide), Option.bind_some, sa_sa, sa_sa, hT.1 3 (by decide), hT.1 4 (by decide), hT.1 5 (by decide)]
  refine lp_in2 5 (fun i s (t : OS) => s = nI i ∧ ∃ F, t = sa P 2 F ∧ F (8 * p) = nI (V 3 0) ∧ F (8 * p + 1) = nI (V 4 0) ∧ F (8 * p + 2) = nI (V 5 0) ∧ (∀ l, l < i → F (8 * p + 3 + l) = nI (V 11 l)) ∧ ∀ x, (x < 8 * p ∨ 8 * p + 8 ≤ x) → F x = P.2 2 x) (fun r => ∃ F, r = some (sa P 2 F) ∧ HD V p F ∧ ∀ i, (i < 8 * p ∨ 8 * p + 8 ≤ i) → F i = P.2 2 i) ?_ FU 0 _ _ (Nat.zero_le _) ⟨rfl, _, rfl, ?_, ?_, ?_, fun l hl => by omega, fun x hx => ?_⟩ (by rw [FU_1000]; omega)
  · rintro k i s t hi ⟨rfl, F, rfl, f1, f2, f3, f4, f5⟩
    unfold b_X4_hold_50
    by_cases e : i = 5
    · left
      subst e
      rw [if_pos (by decide)]
      exact ⟨F, rfl, ⟨f1, f2, f3, f4⟩, f5⟩
    · have hlt : i < 5 := by omega
      rw [if_neg (show ¬ (5 : Int32) ≤ nI i from nI_ge (b := 5) hlt (by decide)), at_in hlt (by decide), Option.bind_some, hT.2 11 (by decide) (by decide) i hlt, show nI (p * 8) + (3 : Int32) + nI i = nI (8 * p + 3 + i) by rw [show (3 : Int32) = nI 3 from rfl, nI_add, nI_add, Nat.mul_comm], sa_s, store_in (by omega : 8 * p + 3 + i < 72) (by decide), Option.bind_some, sa_sa, show nI i + (1 : Int32) = nI (i + 1) from nI_1 i]
      refine Or.inr ⟨hlt, _, _, ⟨rfl, _, rfl, by rw [upd_n (by omega)]; exact f1, by rw [upd_n (by omega)]; exact f2, by rw [upd_n (by omega)]; exact f3, fun l hl => ?_, fun x hx => by rw [upd_n (by omega)]; exact f5 x hx⟩, rfl⟩
      by_cases el : l = i
      · subst el; rw [upd_s]
      · rw [upd_n (by omega)]; exact f4 l (by omega)
  · rw [upd_n (by omega), upd_n (by omega), Nat.mul_comm, upd_s]
  · rw [upd_n (by omega), Nat.mul_comm, upd_s]
  · rw [Nat.mul_comm, upd_s]
  · rw [upd_n (by omega), upd_n (by omega), upd_n (by omega)]
theorem takeb_C {U V : Nat → Nat → Nat} {P T : OS} {p n : Nat} (hT : TR V T) (hS : Same U V) (hp : p < 9) (h0 : P.1 0 = nI (n + 1)) (h1 : P.1 1 = nI p) (hH : HD U ((p + 8) % 9) (P.2 2)) : ∃ T', f_X4_takeBack P T = some (nI n, su (su P 1 (nI ((p + 8) % 9))) 0 (nI n), T') ∧ TR U T' := by
  have hq := Nat.mod_lt (p + 8) (by decide : 0 < 9)
  obtain ⟨q1, q2, q3, q4⟩ := hH
  unfold f_X4_takeBack
  rw [h1, h0, show nI p + (9 : Int32) - (1 : Int32) = nI (p + 8) by rw [show nI p + (9 : Int32) = nI (p + 8 + 1) from nI_add p 9, m1_add], show (9 : Int32) = nI 9 from rfl, rem_nI (by omega) (by decide) (by decide), show (8 : Int32) = nI 8 from rfl, pk_mul, at_in (by omega : (p + 8) % 9 * 8 < 72) (by decide), Option.bind_some, show nI ((p + 8) % 9 * 8) + (1 : Int32) = nI ((p + 8) % 9 * 8 + 1) from nI_1 _, at_in (by omega : (p + 8) % 9 * 8 + 1 < 72) (by decide), Option.bind_some, show nI ((p + 8) % 9 * 8) + (2 : Int32) = nI ((p + 8) % 9 * 8 + 2) from nI_add _ 2, at_in (by omega : (p + 8) % 9 * 8 + 2 < 72) (by decide), Option.bind_some, show nI (n + 1) - (1 : Int32) = nI n from m1_add n, Nat.mul_comm ((p + 8) % 9) 8, q1, q2, q3]
  refine lp_in2 5 (fun i s (t : OS) => s = nI i ∧ t.1 = (su (su (su T 3 (nI (U 3 0))) 4 (nI (U 4 0))) 5 (nI (U 5 0))).1 ∧ (∀ j, j ≠ 11 → t.2 j = T.2 j) ∧ ∀ l, l < i → t.2 11 l = nI (U 11 l)) (fun r => ∃ T', r = some (nI n, su (su P 1 (nI ((p + 8) % 9))) 0 (nI n), T') ∧ TR U T') ?_ FU 0 _ _ (Nat.zero_le _) ⟨rfl, rfl, fun _ _ => rfl, fun l hl => by omega⟩ (by rw [FU_1000]; omega)
  rintro k i s t hi ⟨rfl, t1, t2, t3⟩
  unfold b_X4_takeBack_76
  by_cases e : i = 5
  · left
    subst e
    rw [if_pos (by decide)]
    refine ⟨t, ?_, ?_⟩
    · exact congrArg (fun z => some (z, su (su P 1 (nI ((p + 8) % 9))) 0 (nI n), t)) su_s
    · refine ⟨fun i hi => ?_, fun i h1 h2 k hk => ?_⟩
      · rw [t1]
        rcases (by omega : i < 3 ∨ i = 3 ∨ i = 4 ∨ i = 5) with q | q | q | q
        · rw [su_n (by omega), su_n (by omega), su_n (by omega), hS.1 i q]; exact hT.1 i (by omega)
        · subst q; rw [su_n (by decide), su_n (by decide), su_s]
        · subst q; rw [su_n (by decide), su_s]
        · subst q; rw [su_s]
      · by_cases q : i = 11
        · subst q; exact t3 k hk
        · rw [t2 i q, hS.2 i h1 (by omega) k hk]; exact hT.2 i h1 h2 k hk
  · have hlt : i < 5 := by omega
    rw [if_neg (show ¬ (5 : Int32) ≤ nI i from nI_ge (b := 5) hlt (by decide)), show nI (8 * ((p + 8) % 9)) + (3 : Int32) + nI i = nI (8 * ((p + 8) % 9) + 3 + i) by rw [show (3 : Int32) = nI 3 from rfl, nI_add, nI_add]]
    rw [show (su (su P 1 (nI ((p + 8) % 9))) 0 (nI n)).2 2 = P.2 2 from rfl, at_in (by omega : 8 * ((p + 8) % 9) + 3 + i < 72) (by decide), Option.bind_some, q4 i hlt, store_in hlt (by decide), Option.bind_some, show nI i + (1 : Int32) = nI (i + 1) from nI_1 i]
    refine Or.inr ⟨hlt, nI (i + 1), sa t 11 (upd (t.2 11) i (nI (U 11 i))), ⟨rfl, t1, fun j hj => by rw [sa_n hj]; exact t2 j hj, fun l hl => ?_⟩, rfl⟩
    rw [sa_s]
    by_cases el : l = i
    · subst el; rw [upd_s]
    · rw [upd_n el]; exact t3 l (by omega)
