/-! PURE: the reference reads all statements -/
def PRC (c : Nat → Nat) (m : Nat) (S : OS) : Prop := ∀ i, i < m → S.2 14 i = nI (c (stp c i)) ∧ S.2 15 i = nI (stp c i) ∧ ∀ a, a < na (c (stp c i)) → S.2 16 (3 * i + a) = nI (ar c (stp c i + 1) (c (stp c i)) a)
theorem na_le (x : Nat) : na x ≤ 3 := by
  unfold na
  repeat' split
  all_goals omega
def goods (c : Nat → Nat) (n m : Nat) : Prop := ∀ i, i < m → stp c i < n ∧ fS c n (stp c i) = none
theorem goods_le {c : Nat → Nat} {n : Nat} : ∀ {m : Nat}, goods c n m → stp c m ≤ n
  | 0, _ => Nat.zero_le _
  | m + 1, h => by
    obtain ⟨h1, h2⟩ := h m (by omega)
    obtain ⟨d, a1, a2, a3, a4, -⟩ := fS_ok h2
    rw [stp]
    omega
theorem parse_M {c : Nat → Nat} {n : Nat} {S0 : OS} (hS : LM c n S0) : ∃ v S', Lp2 b_X8_town_12 FU 1 (su (su S0 18 0) 19 0) = j_X8_town_60 v S' ∧ (∀ x, x ≠ 18 → x ≠ 19 → S'.1 x = S0.1 x) ∧ (∀ x, x ≠ 14 → x ≠ 15 → x ≠ 16 → S'.2 x = S0.2 x) ∧ ((∃ q, wrL c n = some q ∧ v = 0 ∧ S'.1 18 = nI q) ∨ (∃ m, 1 ≤ m ∧ m ≤ 48 ∧ wrL c n = none ∧ v = 1 ∧ S'.1 19 = nI m ∧ stp c m = n ∧ goods c n m ∧ PRC c m S')) := by
  obtain ⟨h0, h96, hc⟩ := id hS
  refine lp_in2 50 (fun i v (S : OS) => (∀ x, x ≠ 18 → x ≠ 19 → S.1 x = S0.1 x) ∧ (∀ x, x ≠ 14 → x ≠ 15 → x ≠ 16 → S.2 x = S0.2 x) ∧ ((∃ q, wrL c n = some q ∧ v = 0 ∧ S.1 18 = nI q) ∨ (i ≤ 48 ∧ v = 1 ∧ S.1 18 = nI (stp c i) ∧ S.1 19 = nI i ∧ goods c n i ∧ PRC c i S))) (fun r => ∃ v, ∃ S' : OS, r = j_X8_town_60 v S' ∧ (∀ x, x ≠ 18 → x ≠ 19 → S'.1 x = S0.1 x) ∧ (∀ x, x ≠ 14 → x ≠ 15 → x ≠ 16 → S'.2 x = S0.2 x) ∧ ((∃ q, wrL c n = some q ∧ v = 0 ∧ S'.1 18 = nI q) ∨ (∃ m, 1 ≤ m ∧ m ≤ 48 ∧ wrL c n = none ∧ v = 1 ∧ S'.1 19 = nI m ∧ stp c m = n ∧ goods c n m ∧ PRC c m S'))) ?_ FU 0 _ _ (Nat.zero_le _) ⟨fun x h1 h2 => by rw [su_n h2, su_n h1], fun _ _ _ _ => rfl, Or.inr ⟨by omega, rfl, by rw [su_n (by decide), su_s]; rfl, su_s, fun i hi => by omega, fun i hi => by omega⟩⟩ (by rw [FU_1000]; omega)
  rintro k i v S hi ⟨f1, f2, hv⟩
  unfold b_X8_town_12
  rcases hv with ⟨q, q1, rfl, q3⟩ | ⟨i48, rfl, p1, p2, pg, pr⟩
  · left
    rw [if_pos rfl]
    exact ⟨_, _, rfl, f1, f2, Or.inl ⟨q, q1, rfl, q3⟩⟩
  · have hle := goods_le pg
    have hge := stp_ge (c := c) i
    have hSS : LM c n S := ⟨by rw [f1 17 (by decide) (by decide)]; exact h0, h96, fun k hk => by rw [f2 13 (by decide) (by decide) (by decide)]; exact hc k hk⟩
    have stepE : (stp c i < n ∨ i = 0) → i < 50 ∧ ∃ b1 b2, ((∀ x, x ≠ 18 → x ≠ 19 → b2.1 x = S0.1 x) ∧ (∀ x, x ≠ 14 → x ≠ 15 → x ≠ 16 → b2.2 x = S0.2 x) ∧ ((∃ q, wrL c n = some q ∧ b1 = 0 ∧ b2.1 18 = nI q) ∨ (i + 1 ≤ 48 ∧ b1 = 1 ∧ b2.1 18 = nI (stp c (i + 1)) ∧ b2.1 19 = nI (i + 1) ∧ goods c n (i + 1) ∧ PRC c (i + 1) b2))) ∧ j_X8_town_34 k S = k b1 b2 := by
      intro hcase
      obtain ⟨r, S', e1, s1, s2, s3, s4, s5⟩ := stmt_M hSS hle p1 p2 (fun hlt => by omega)
      unfold j_X8_town_34 j_X8_town_53
      rw [e1, Option.bind_some]
      have e19 : S'.1 19 = nI i := by rw [s1 19 (by decide)]; exact p2
      rcases s5 with ⟨q, q1, rfl, q3⟩ | ⟨q1, rfl, q3, q4, q5, q6⟩
      · rw [if_pos rfl]
        refine ⟨by omega, 0, su S' 19 (S'.1 19 + 0), ⟨fun x x1 x2 => by rw [su_n x2, s1 x x1]; exact f1 x x1 x2, fun x x1 x2 x3 => by rw [su_a, s2 x x1 x2 x3]; exact f2 x x1 x2 x3, Or.inl ⟨q, ?_, rfl, by rw [su_n (by decide)]; exact q3⟩⟩, rfl⟩
        unfold wrL
        by_cases en : n = 0
        · subst en
          have hp0 : stp c i = 0 := by omega
          rw [hp0] at q1
          have : fS c 0 0 = some 0 := by unfold fS; rw [if_neg (by omega)]
          rw [if_pos rfl, ← q1, this]
        · have hlt : stp c i < n := by
            rcases hcase with h | h
            · exact h
            · subst h; show 0 < n; omega
          have := fA_st (c := c) (n := n) i (97 - i) pg
          rw [show 97 - i + i = 97 by omega] at this
          obtain ⟨z, hz⟩ : ∃ z, 97 - i = z + 1 := ⟨96 - i, by omega⟩
          rw [if_neg en, this, hz, fA, if_pos hlt, q1]
      · have hlt : stp c i < n := by
          obtain ⟨d, a1, a2, a3, a4, -⟩ := fS_ok q1
          omega
        rw [if_neg n10]
        have hg : goods c n (i + 1) := fun j hj => by
          by_cases ej : j = i
          · subst ej; exact ⟨hlt, q1⟩
          · exact pg j (by omega)
        refine ⟨by omega, 1, su S' 19 (S'.1 19 + 1), ⟨fun x x1 x2 => by rw [su_n x2, s1 x x1]; exact f1 x x1 x2, fun x x1 x2 x3 => by rw [su_a, s2 x x1 x2 x3]; exact f2 x x1 x2 x3, Or.inr ⟨by omega, rfl, by rw [su_n (by decide)]; exact q3, by rw [su_s, e19]; exact nI_1 i, hg, fun j hj => ?_⟩⟩, rfl⟩
        rw [su_a]
        by_cases ej : j = i
        · subst ej; exact ⟨q4, q5, q6⟩
        · obtain ⟨t1, t2, t3⟩ := pr j (by omega)
          obtain ⟨u1, u2⟩ := s3 j ej
          refine ⟨u1.trans t1, u2.trans t2, fun a ha => ?_⟩
          have := na_le (c (stp c j))
          rw [s4 _ (by omega)]
          exact t3 a ha
    rw [if_neg n10, p1, hSS.1, p2]
    by_cases e : stp c i < n
    · rw [if_pos (nI_lt e (by omega))]
      exact Or.inr (stepE (Or.inl e))
    · rw [if_neg (nI_nlt (by omega) (by omega))]
      by_cases e0 : i = 0
      · rw [if_pos (show nI i = (0 : Int32) by rw [e0]; rfl)]
        exact Or.inr (stepE (Or.inr e0))
      · rw [if_neg (nI_ne0 (by omega) (by omega))]
        left
        have hn : stp c i = n := by omega
        have hn0 : n ≠ 0 := by omega
        refine ⟨_, _, rfl, f1, f2, Or.inr ⟨i, by omega, i48, ?_, rfl, p2, hn, pg, pr⟩⟩
        unfold wrL
        have := fA_st (c := c) (n := n) i (97 - i) pg
        rw [show 97 - i + i = 97 by omega] at this
        obtain ⟨z, hz⟩ : ∃ z, 97 - i = z + 1 := ⟨96 - i, by omega⟩
        rw [if_neg hn0, this, hz, fA, if_neg e]
