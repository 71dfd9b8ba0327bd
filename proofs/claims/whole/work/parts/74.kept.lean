/-! PURE: what is kept -/
/-- one row passed, of field a and N long -/
def pB (a N : Nat) (k_2 : Int32 → OS → Option OS) (v2 : Int32) (S : OS) : Option OS := if nI N ≤ v2 then some S else (if S.1 22 = 0 then (if inb (S.1 23) 480 = true then (if inb v2 N = true then k_2 (v2 + 1) (su (sa S a (upd (S.2 a) v2.toNatClampNeg (S.2 20 (S.1 23).toNatClampNeg))) 23 (S.1 23 + 1)) else none) else none) else (if inb v2 N = true then (if inb (S.1 23) 480 = true then k_2 (v2 + 1) (su (sa S 20 (upd (S.2 20) (S.1 23).toNatClampNeg (S.2 a v2.toNatClampNeg))) 23 (S.1 23 + 1)) else none) else none))
theorem pB_1 : b_X8_passes_1_2 = pB 1 8 := rfl
theorem pB_2 : b_X8_passes_2_2 = pB 2 8 := rfl
theorem pB_3 : b_X8_passes_3_2 = pB 3 8 := rfl
theorem pB_4 : b_X8_passes_4_2 = pB 4 6 := rfl
theorem pB_5 : b_X8_passes_5_2 = pB 5 5 := rfl
theorem pB_6 : b_X8_passes_6_2 = pB 6 5 := rfl
/-- a row saved -/
theorem pB_save {S : OS} {a N c : Nat} (ha : a ≠ 20) (hN : N ≤ 8) (hc : c + N ≤ 480) (h22 : S.1 22 = 1) (h23 : S.1 23 = nI c) : ∃ S', Lp2 (pB a N) FU 0 S = some S' ∧ S'.1 23 = nI (c + N) ∧ (∀ j, j ≠ 23 → S'.1 j = S.1 j) ∧ (∀ j, j ≠ 20 → S'.2 j = S.2 j) ∧ (∀ k, k < N → S'.2 20 (c + k) = S.2 a k) ∧ ∀ x, (x < c ∨ c + N ≤ x) → S'.2 20 x = S.2 20 x := by
  refine lp_in2 N (fun i s (t : OS) => s = nI i ∧ t.1 23 = nI (c + i) ∧ (∀ j, j ≠ 23 → t.1 j = S.1 j) ∧ (∀ j, j ≠ 20 → t.2 j = S.2 j) ∧ (∀ k, k < i → t.2 20 (c + k) = S.2 a k) ∧ ∀ x, (x < c ∨ c + i ≤ x) → t.2 20 x = S.2 20 x) (fun r => ∃ S' : OS, r = some S' ∧ S'.1 23 = nI (c + N) ∧ (∀ j, j ≠ 23 → S'.1 j = S.1 j) ∧ (∀ j, j ≠ 20 → S'.2 j = S.2 j) ∧ (∀ k, k < N → S'.2 20 (c + k) = S.2 a k) ∧ ∀ x, (x < c ∨ c + N ≤ x) → S'.2 20 x = S.2 20 x) ?_ FU 0 _ _ (Nat.zero_le _) ⟨rfl, h23, fun _ _ => rfl, fun _ _ => rfl, fun k hk => by omega, fun _ _ => rfl⟩ (by rw [FU_1000]; omega)
  rintro k i s t hi ⟨rfl, t23, t1, t2, t3, t4⟩
  unfold pB
  by_cases e : i = N
  · left
    subst e
    rw [if_pos (nI_le (Nat.le_refl _) (by omega))]
    exact ⟨t, rfl, t23, t1, t2, t3, t4⟩
  · have hlt : i < N := by omega
    rw [if_neg (nI_ge hlt (by omega)), t1 22 (by decide), h22, if_neg n10, if_pos (inb_nI hlt (by omega)), t23, if_pos (inb_nI (by omega : c + i < 480) (by decide)), nI_clamp (by omega), nI_clamp (by omega), show nI i + (1 : Int32) = nI (i + 1) from nI_1 i, show nI (c + i) + (1 : Int32) = nI (c + (i + 1)) from nI_1 _]
    refine Or.inr ⟨hlt, _, _, ⟨rfl, su_s, fun j hj => by rw [su_n hj]; exact t1 j hj, fun j hj => by rw [su_a, sa_n hj]; exact t2 j hj, fun k hk => ?_, fun x hx => ?_⟩, rfl⟩
    · rw [su_a, sa_s]
      by_cases ek : k = i
      · subst ek; rw [upd_s, t2 a ha]
      · rw [upd_n (by omega)]; exact t3 k (by omega)
    · rw [su_a, sa_s, upd_n (by omega)]; exact t4 x (by omega)
/-- a row loaded -/
theorem pB_load {S : OS} {a N c : Nat} (ha : a ≠ 20) (hN : N ≤ 8) (hc : c + N ≤ 480) (h22 : S.1 22 = 0) (h23 : S.1 23 = nI c) : ∃ S', Lp2 (pB a N) FU 0 S = some S' ∧ S'.1 23 = nI (c + N) ∧ (∀ j, j ≠ 23 → S'.1 j = S.1 j) ∧ (∀ j, j ≠ a → S'.2 j = S.2 j) ∧ (∀ k, k < N → S'.2 a k = S.2 20 (c + k)) := by
  refine lp_in2 N (fun i s (t : OS) => s = nI i ∧ t.1 23 = nI (c + i) ∧ (∀ j, j ≠ 23 → t.1 j = S.1 j) ∧ (∀ j, j ≠ a → t.2 j = S.2 j) ∧ (∀ k, k < i → t.2 a k = S.2 20 (c + k))) (fun r => ∃ S' : OS, r = some S' ∧ S'.1 23 = nI (c + N) ∧ (∀ j, j ≠ 23 → S'.1 j = S.1 j) ∧ (∀ j, j ≠ a → S'.2 j = S.2 j) ∧ (∀ k, k < N → S'.2 a k = S.2 20 (c + k))) ?_ FU 0 _ _ (Nat.zero_le _) ⟨rfl, h23, fun _ _ => rfl, fun _ _ => rfl, fun k hk => by omega⟩ (by rw [FU_1000]; omega)
  rintro k i s t hi ⟨rfl, t23, t1, t2, t3⟩
  unfold pB
  by_cases e : i = N
  · left
    subst e
    rw [if_pos (nI_le (Nat.le_refl _) (by omega))]
    exact ⟨t, rfl, t23, t1, t2, t3⟩
  · have hlt : i < N := by omega
    rw [if_neg (nI_ge hlt (by omega)), t1 22 (by decide), h22, if_pos rfl, t23, if_pos (inb_nI (by omega : c + i < 480) (by decide)), if_pos (inb_nI hlt (by omega)), nI_clamp (by omega), nI_clamp (by omega), show nI i + (1 : Int32) = nI (i + 1) from nI_1 i, show nI (c + i) + (1 : Int32) = nI (c + (i + 1)) from nI_1 _]
    refine Or.inr ⟨hlt, _, _, ⟨rfl, su_s, fun j hj => by rw [su_n hj]; exact t1 j hj, fun j hj => by rw [su_a, sa_n hj]; exact t2 j hj, fun k hk => ?_⟩, rfl⟩
    rw [su_a, sa_s]
    by_cases ek : k = i
    · subst ek; rw [upd_s, t2 20 (fun q => ha q.symm)]
    · rw [upd_n ek]; exact t3 k (by omega)
theorem one_save {S : OS} {c : Nat} {v : Int32} (hc : c < 480) (h22 : S.1 22 = 1) (h23 : S.1 23 = nI c) : f_X8_passOne S v = some (v, su (sa S 20 (upd (S.2 20) c v)) 23 (nI (c + 1))) := by
  unfold f_X8_passOne j_X8_passOne_20 j_X8_passOne_38
  rw [h22, if_neg n10, if_neg n10, h23, if_pos (inb_nI hc (by decide)), nI_clamp (by omega)]
  exact congrArg (fun z => some (v, su (sa S 20 (upd (S.2 20) c v)) 23 z)) ((congrArg (· + 1) h23).trans (nI_1 c))
theorem one_load {S : OS} {c : Nat} {v : Int32} (hc : c < 480) (h22 : S.1 22 = 0) (h23 : S.1 23 = nI c) : f_X8_passOne S v = some (S.2 20 c, su S 23 (nI (c + 1))) := by
  unfold f_X8_passOne j_X8_passOne_20 j_X8_passOne_38
  rw [if_pos h22, if_pos h22, h23, if_pos (inb_nI hc (by decide)), nI_clamp (by omega), show nI c + (1 : Int32) = nI (c + 1) from nI_1 c]
/-- saved so far, m numbers of them -/
def SVD (S0 : OS) (b m : Nat) (S : OS) : Prop := S.1 22 = 1 ∧ S.1 23 = nI (46 * b + m) ∧ (∀ j, j ≠ 22 → j ≠ 23 → S.1 j = S0.1 j) ∧ (∀ j, j ≠ 20 → S.2 j = S0.2 j) ∧ (∀ i, 6 ≤ i → i < 12 → ∀ k, k < lnT i → ofK i + k < m → S.2 20 (46 * b + ofK i + k) = S0.2 (i - 5) k) ∧ (∀ i, i < 6 → 40 + i < m → S.2 20 (46 * b + 40 + i) = S0.1 (i + 7)) ∧ ∀ x, (x < 46 * b ∨ 46 * b + m ≤ x) → S.2 20 x = S0.2 20 x
theorem ofK_in {i : Nat} (h1 : 6 ≤ i) (h2 : i < 12) : (i = 6 ∧ ofK i = 0 ∧ lnT i = 8) ∨ (i = 7 ∧ ofK i = 8 ∧ lnT i = 8) ∨ (i = 8 ∧ ofK i = 16 ∧ lnT i = 8) ∨ (i = 9 ∧ ofK i = 24 ∧ lnT i = 6) ∨ (i = 10 ∧ ofK i = 30 ∧ lnT i = 5) ∨ (i = 11 ∧ ofK i = 35 ∧ lnT i = 5) := by
  rcases (by omega : i = 6 ∨ i = 7 ∨ i = 8 ∨ i = 9 ∨ i = 10 ∨ i = 11) with q | q | q | q | q | q <;> subst q <;> decide
theorem SVD_row {S0 S : OS} {b i : Nat} (hb : b ≤ 9) (h1 : 6 ≤ i) (h2 : i < 12) (h : SVD S0 b (ofK i) S) : ∃ S', Lp2 (pB (i - 5) (lnT i)) FU 0 S = some S' ∧ SVD S0 b (ofK i + lnT i) S' := by
  obtain ⟨s1, s2, s3, s4, s5, s6, s7⟩ := h
  have hi := ofK_in h1 h2
  obtain ⟨S', e0, e1, e2, e3, e4, e5⟩ := pB_save (S := S) (a := i - 5) (N := lnT i) (c := 46 * b + ofK i) (by omega) (by omega) (by omega) s1 s2
  refine ⟨S', e0, by rw [e2 22 (by decide)]; exact s1, by rw [e1, Nat.add_assoc], fun j j1 j2 => by rw [e2 j j2]; exact s3 j j1 j2, fun j hj => by rw [e3 j hj]; exact s4 j hj, fun x x1 x2 k hk hm => ?_, fun x hx hm => by omega, fun x hx => by rw [e5 x (by omega)]; exact s7 x (by omega)⟩
  have hx := ofK_in x1 x2
  by_cases ex : x = i
  · subst ex
    rw [e4 k hk, s4 _ (by omega)]
  · rw [e5 _ (by omega)]
    exact s5 x x1 x2 k hk (by omega)
theorem SVD_one {S0 S : OS} {b i : Nat} (hb : b ≤ 9) (h2 : i < 6) (h : SVD S0 b (40 + i) S) : ∃ S', f_X8_passOne S (S.1 (i + 7)) = some (S.1 (i + 7), S') ∧ SVD S0 b (40 + i + 1) S' ∧ su S' (i + 7) (S.1 (i + 7)) = S' := by
  obtain ⟨s1, s2, s3, s4, s5, s6, s7⟩ := h
  refine ⟨_, one_save (by omega) s1 s2, ⟨by rw [su_n (by decide)]; exact s1, by rw [su_s, Nat.add_assoc], fun j j1 j2 => by rw [su_n j2]; exact s3 j j1 j2, fun j hj => by rw [su_a, sa_n hj]; exact s4 j hj, fun x x1 x2 k hk hm => ?_, fun x hx hm => ?_, fun x hx => by rw [su_a, sa_s, upd_n (by omega)]; exact s7 x (by omega)⟩, su_id (by rw [su_n (by omega)]; rfl)⟩
  · have hx := ofK_in x1 x2
    rw [su_a, sa_s, upd_n (by omega)]
    exact s5 x x1 x2 k hk (by omega)
  · rw [su_a, sa_s]
    by_cases ex : x = i
    · subst ex
      rw [show 46 * b + 40 + x = 46 * b + (40 + x) by omega, upd_s]
      exact s3 _ (by omega) (by omega)
    · rw [upd_n (by omega)]
      exact s6 x hx (by omega)
theorem save_M {S : OS} {b : Nat} (hb : b ≤ 9) : ∃ S', f_X8_passesAll S (nI b) 1 = some S' ∧ SVD S b 46 S' := by
  have h0 : SVD S b (ofK 6) (su (su S 23 ((46 : Int32) * nI b)) 22 1) := by
    refine ⟨su_s, ?_, fun j j1 j2 => by rw [su_n j1, su_n j2], fun j hj => rfl, fun x x1 x2 k hk hm => ?_, fun x hx hm => ?_, fun x hx => rfl⟩
    · rw [su_n (by decide), su_s, show (46 : Int32) = nI 46 from rfl, pk_mul]; rfl
    · rw [show ofK 6 = 0 from rfl] at hm; omega
    · rw [show ofK 6 = 0 from rfl] at hm; omega
  obtain ⟨S1, a1, h1⟩ := SVD_row hb (by decide) (by decide) h0
  obtain ⟨S2, a2, h2⟩ := SVD_row (i := 7) hb (by decide) (by decide) h1
  obtain ⟨S3, a3, h3⟩ := SVD_row (i := 8) hb (by decide) (by decide) h2
  obtain ⟨S4, a4, h4⟩ := SVD_row (i := 9) hb (by decide) (by decide) h3
  obtain ⟨S5, a5, h5⟩ := SVD_row (i := 10) hb (by decide) (by decide) h4
  obtain ⟨S6, a6, h6⟩ := SVD_row (i := 11) hb (by decide) (by decide) h5
  obtain ⟨S7, b1, g1, u1⟩ := SVD_one (i := 0) hb (by decide) h6
  obtain ⟨S8, b2, g2, u2⟩ := SVD_one (i := 1) hb (by decide) g1
  obtain ⟨S9, b3, g3, u3⟩ := SVD_one (i := 2) hb (by decide) g2
  obtain ⟨SA, b4, g4, u4⟩ := SVD_one (i := 3) hb (by decide) g3
  obtain ⟨SB, b5, g5, u5⟩ := SVD_one (i := 4) hb (by decide) g4
  obtain ⟨SC, b6, g6, u6⟩ := SVD_one (i := 5) hb (by decide) g5
  refine ⟨SC, ?_, g6⟩
  unfold f_X8_passesAll f_X8_passes_1 f_X8_passes_2 f_X8_passes_3 f_X8_passes_4 f_X8_passes_5 f_X8_passes_6
  rw [if_pos (by decide : isB 1 = true), pB_1, pB_2, pB_3, pB_4, pB_5, pB_6]
  rw [show Lp2 (pB 1 8) FU 0 _ = _ from a1, Option.bind_some, show Lp2 (pB 2 8) FU 0 S1 = _ from a2, Option.bind_some, show Lp2 (pB 3 8) FU 0 S2 = _ from a3, Option.bind_some, show Lp2 (pB 4 6) FU 0 S3 = _ from a4, Option.bind_some, show Lp2 (pB 5 5) FU 0 S4 = _ from a5, Option.bind_some, show Lp2 (pB 6 5) FU 0 S5 = _ from a6, Option.bind_some]
  rw [show f_X8_passOne S6 (S6.1 7) = _ from b1, Option.bind_some]
  simp only []
  rw [show su S7 7 (S6.1 (0 + 7)) = S7 from u1, show f_X8_passOne S7 (S7.1 8) = _ from b2, Option.bind_some]
  simp only []
  rw [show su S8 8 (S7.1 (1 + 7)) = S8 from u2, show f_X8_passOne S8 (S8.1 9) = _ from b3, Option.bind_some]
  simp only []
  rw [show su S9 9 (S8.1 (2 + 7)) = S9 from u3, show f_X8_passOne S9 (S9.1 10) = _ from b4, Option.bind_some]
  simp only []
  rw [show su SA 10 (S9.1 (3 + 7)) = SA from u4, show f_X8_passOne SA (SA.1 11) = _ from b5, Option.bind_some]
  simp only []
  rw [show su SB 11 (SA.1 (4 + 7)) = SB from u5, show f_X8_passOne SB (SB.1 12) = _ from b6, Option.bind_some]
  simp only []
  rw [show su SC 12 (SB.1 (5 + 7)) = SC from u6]
