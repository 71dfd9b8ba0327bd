/-! PURE: the past -/
theorem shift_M {S : OS} : ∃ F, Lp2 b_X8_keepsBack_12 FU 92 S = j_X8_keepsBack_40 (sa S 20 F) ∧ (∀ x, 92 ≤ x → x < 414 → F x = S.2 20 (x + 46)) ∧ ∀ x, (x < 92 ∨ 414 ≤ x) → F x = S.2 20 x := by
  refine lp_in2 414 (fun i s (t : OS) => s = nI i ∧ 92 ≤ i ∧ ∃ F, t = sa S 20 F ∧ (∀ x, 92 ≤ x → x < i → F x = S.2 20 (x + 46)) ∧ ∀ x, (x < 92 ∨ i ≤ x) → F x = S.2 20 x) (fun r => ∃ F : Nat → Int32, r = j_X8_keepsBack_40 (sa S 20 F) ∧ (∀ x, 92 ≤ x → x < 414 → F x = S.2 20 (x + 46)) ∧ ∀ x, (x < 92 ∨ 414 ≤ x) → F x = S.2 20 x) ?_ FU 92 _ _ (by decide) ⟨rfl, Nat.le_refl _, S.2 20, sa_self.symm, fun x h1 h2 => by omega, fun x _ => rfl⟩ (by rw [FU_1000]; omega)
  rintro k i s t hi ⟨rfl, h92, F, rfl, f1, f2⟩
  unfold b_X8_keepsBack_12
  by_cases e : i = 414
  · left
    subst e
    rw [if_pos (by decide)]
    exact ⟨F, rfl, f1, f2⟩
  · have hlt : i < 414 := by omega
    rw [if_neg (show ¬ (414 : Int32) ≤ nI i from nI_ge (b := 414) hlt (by decide)), show nI i + (46 : Int32) = nI (i + 46) from nI_add i 46, if_pos (inb_nI (by omega : i + 46 < 480) (by decide)), if_pos (inb_nI (by omega : i < 480) (by decide)), nI_clamp (by omega), nI_clamp (by omega), sa_s, sa_sa, f2 (i + 46) (by omega), show nI i + (1 : Int32) = nI (i + 1) from nI_1 i]
    refine Or.inr ⟨hlt, _, _, ⟨rfl, by omega, _, rfl, fun x h1 h2 => ?_, fun x hx => by rw [upd_n (by omega)]; exact f2 x (by omega)⟩, rfl⟩
    by_cases ex : x = i
    · subst ex; rw [upd_s]
    · rw [upd_n ex]; exact f1 x h1 (by omega)
/-- the numbers kept before -/
theorem KP_cg {U : Nat → Nat → Nat} {b b' : Nat} {F F' : Nat → Int32} (h : KP U b F) (e : ∀ x, x < 46 → F' (46 * b' + x) = F (46 * b + x)) : KP U b' F' := by
  refine ⟨fun i hi => ?_, fun i h1 h2 k hk => ?_⟩
  · have := e (40 + i) (by omega)
    rw [show 46 * b' + 40 + i = 46 * b' + (40 + i) by omega, this, show 46 * b + (40 + i) = 46 * b + 40 + i by omega]
    exact h.1 i hi
  · have hi := ofK_in h1 h2
    have := e (ofK i + k) (by omega)
    rw [show 46 * b' + ofK i + k = 46 * b' + (ofK i + k) by omega, this, show 46 * b + (ofK i + k) = 46 * b + ofK i + k by omega]
    exact h.2 i h1 h2 k hk
theorem keeps_M {V : Nat → Nat → Nat} {S : OS} {n : Nat} (hM : MR V S) (hn : n ≤ 8) (h24 : S.1 24 = nI n) : ∃ S', f_X8_keepsBack S = some S' ∧ S'.1 24 = nI (min (n + 1) 8) ∧ (∀ j, j ≠ 22 → j ≠ 23 → j ≠ 24 → S'.1 j = S.1 j) ∧ (∀ j, j ≠ 20 → S'.2 j = S.2 j) ∧ (∀ x, x < 92 → S'.2 20 x = S.2 20 x) ∧ (∀ j, j < min n 7 → ∀ x, x < 46 → S'.2 20 (46 * (2 + j) + x) = S.2 20 (46 * (2 + (j + (n - 7))) + x)) ∧ KP V (2 + min n 7) (S'.2 20) := by
  unfold f_X8_keepsBack
  by_cases e : n = 8
  · subst e
    obtain ⟨F, f0, f1, f2⟩ := shift_M (S := S)
    have hM2 : MR V (su (sa S 20 F) 24 (nI 7)) := MR_su (MR_sa hM (by decide)) (by decide)
    obtain ⟨S', a1, a2⟩ := save_M (S := su (sa S 20 F) 24 (nI 7)) (b := 9) (by decide)
    have hK := SVD_KP a2 hM2
    obtain ⟨s1, s2, s3, s4, s5, s6, s7⟩ := a2
    rw [if_pos (show S.1 24 = (8 : Int32) from h24), f0]
    unfold j_X8_keepsBack_40 j_X8_keepsBack_50
    rw [show (sa S 20 F).1 24 - 1 = nI 7 by rw [show (sa S 20 F).1 24 = nI 8 from h24]; rfl, su_s, show (2 : Int32) + nI 7 = nI 9 from rfl, a1, Option.bind_some]
    refine ⟨_, rfl, ?_, fun j j1 j2 j3 => ?_, fun j hj => ?_, fun x hx => ?_, fun j hj x hx => ?_, hK⟩
    · rw [su_s, s3 24 (by decide) (by decide), su_s]; rfl
    · rw [su_n j3, s3 j j1 j2, su_n j3]; rfl
    · rw [su_a, s4 j hj, su_a, sa_n hj]
    · rw [su_a, s7 x (by omega), su_a, sa_s, f2 x (by omega)]
    · rw [su_a, s7 _ (by omega), su_a, sa_s, f1 _ (by omega) (by omega)]
      exact congrArg (S.2 20) (by omega)
  · obtain ⟨S', a1, a2⟩ := save_M (S := S) (b := 2 + n) (by omega)
    have hK := SVD_KP a2 hM
    obtain ⟨s1, s2, s3, s4, s5, s6, s7⟩ := a2
    rw [if_neg (fun q : S.1 24 = (8 : Int32) => e ((nI_eq (b := 8) (by omega) (by decide)).mp (h24.symm.trans q)))]
    unfold j_X8_keepsBack_50
    rw [h24, show (2 : Int32) = nI 2 from rfl, nI_add, a1, Option.bind_some]
    refine ⟨_, rfl, ?_, fun j j1 j2 j3 => ?_, fun j hj => ?_, fun x hx => ?_, fun j hj x hx => ?_, ?_⟩
    · rw [su_s, s3 24 (by decide) (by decide), h24, Nat.min_eq_left (by omega)]; exact nI_1 n
    · rw [su_n j3, s3 j j1 j2]
    · rw [su_a, s4 j hj]
    · rw [su_a, s7 x (by omega)]
    · rw [su_a, s7 _ (by omega), show n - 7 = 0 by omega, Nat.add_zero]
    · rw [Nat.min_eq_left (by omega), su_a]; exact hK
theorem Same_tr {A B C : Nat → Nat → Nat} (h1 : Same A B) (h2 : Same B C) : Same A C := ⟨fun i hi => (h1.1 i hi).trans (h2.1 i hi), fun i q1 q2 k hk => (h1.2 i q1 q2 k hk).trans (h2.2 i q1 q2 k hk)⟩
theorem Same_rf {A : Nat → Nat → Nat} : Same A A := ⟨fun _ _ => rfl, fun _ _ _ _ _ => rfl⟩
theorem HD_cg {U : Nat → Nat → Nat} {q : Nat} {F F' : Nat → Int32} (h : HD U q F) (e : ∀ x, 8 * q ≤ x → x < 8 * q + 8 → F' x = F x) : HD U q F' := by
  obtain ⟨h1, h2, h3, h4⟩ := h
  exact ⟨by rw [e _ (by omega) (by omega)]; exact h1, by rw [e _ (by omega) (by omega)]; exact h2, by rw [e _ (by omega) (by omega)]; exact h3, fun l hl => by rw [e _ (by omega) (by omega)]; exact h4 l hl⟩
/-- held, but refused: the past is as it was -/
theorem Past_hold {V : Nat → Nat → Nat} {Z Z' : Nat → OS} {S S' : OS} {F : Nat → Int32} {p : Nat} (h : Past V Z S) (hp1 : (Z 4).1 1 = nI p) (hp9 : p < 9) (e4 : Z' 4 = sa (Z 4) 2 F) (hF : ∀ i, (i < 8 * p ∨ 8 * p + 8 ≤ i) → F i = (Z 4).2 2 i) (e2 : S'.1 24 = S.1 24) (e3 : S'.2 20 = S.2 20) : Past V Z' S' := by
  obtain ⟨n, p', B, h1, h2, h3, h4, h5, h6⟩ := h
  have hpp : p' = p := (nI_eq (by omega) (by omega)).mp (h5.symm.trans hp1)
  subst hpp
  refine ⟨n, p', B, h1, h2, by rw [e4]; exact h3, by rw [e2]; exact h4, by rw [e4]; exact h5, fun j hj => ?_⟩
  obtain ⟨g1, g2, g3, g4, g5⟩ := h6 j hj
  refine ⟨by rw [e3]; exact g1, g2, g3, g4, ?_⟩
  rw [e4, sa_s]
  refine HD_cg g5 fun x x1 x2 => hF x ?_
  have : (p' + 9 - n + j) % 9 ≠ p' := by omega
  omega
/-- held and kept -/
theorem Past_keep {V V' : Nat → Nat → Nat} {Z Z' : Nat → OS} {S S1 S' : OS} {F : Nat → Int32} {n p : Nat} (h : Past V Z S) (hV : Same V V') (hB : WB V) (hL : WL V) (hn1 : (Z 4).1 0 = nI n) (hn8 : n ≤ 8) (hp1 : (Z 4).1 1 = nI p) (hp9 : p < 9) (e4 : Z' 4 = su (su (sa (Z 4) 2 F) 1 (nI ((p + 1) % 9))) 0 (nI (min (n + 1) 8))) (hF0 : HD V p F) (hF : ∀ i, (i < 8 * p ∨ 8 * p + 8 ≤ i) → F i = (Z 4).2 2 i)
    (k1 : S1.1 24 = nI (min (n + 1) 8)) (k3 : ∀ j, j < min n 7 → ∀ x, x < 46 → S1.2 20 (46 * (2 + j) + x) = S.2 20 (46 * (2 + (j + (n - 7))) + x)) (k4 : KP V (2 + min n 7) (S1.2 20)) (e5 : S'.1 24 = S1.1 24) (e6 : S'.2 20 = S1.2 20) : Past V' Z' S' := by
  obtain ⟨n', p', B, h1, h2, h3, h4, h5, h6⟩ := h
  have hpp : p' = p := (nI_eq (by omega) (by omega)).mp (h5.symm.trans hp1)
  have hnn : n' = n := (nI_eq (by omega) (by omega)).mp (h3.symm.trans hn1)
  subst hpp
  subst hnn
  refine ⟨min (n' + 1) 8, (p' + 1) % 9, fun j => if j < min n' 7 then B (j + (n' - 7)) else V, by omega, Nat.mod_lt _ (by decide), by rw [e4, su_s], by rw [e5, k1], by rw [e4, su_n (by decide), su_s], fun j hj => ?_⟩
  by_cases c : j < min n' 7
  · simp only [c, ↓reduceIte]
    obtain ⟨g1, g2, g3, g4, g5⟩ := h6 (j + (n' - 7)) (by omega)
    refine ⟨?_, g2, g3, Same_tr g4 hV, ?_⟩
    · rw [e6]
      exact KP_cg g1 (k3 j c)
    · have hq : ((p' + 1) % 9 + 9 - min (n' + 1) 8 + j) % 9 = (p' + 9 - n' + (j + (n' - 7))) % 9 := by omega
      rw [hq, e4, su_a, su_a, sa_s]
      refine HD_cg g5 fun x x1 x2 => hF x ?_
      have : (p' + 9 - n' + (j + (n' - 7))) % 9 ≠ p' := by omega
      omega
  · have hjn : j = min n' 7 := by omega
    simp only [c, ↓reduceIte]
    refine ⟨by rw [e6, hjn]; exact k4, hB, hL, hV, ?_⟩
    have hq : ((p' + 1) % 9 + 9 - min (n' + 1) 8 + j) % 9 = p' := by omega
    rw [hq, e4, su_a, su_a, sa_s]
    exact hF0
