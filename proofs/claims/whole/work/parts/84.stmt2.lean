/-! PURE: the reference reads a statement, on -/
theorem isl_no : f_X8_isLetter (-1) = some 0 := by decide
theorem stmt_M {c : Nat → Nat} {n p j : Nat} {S : OS} (hS : LM c n S) (hp : p ≤ n) (h18 : S.1 18 = nI p) (h19 : S.1 19 = nI j) (hj : p < n → j < 48) : ∃ r S', f_X8_statement S = some (r, S') ∧ (∀ x, x ≠ 18 → S'.1 x = S.1 x) ∧ (∀ x, x ≠ 14 → x ≠ 15 → x ≠ 16 → S'.2 x = S.2 x) ∧ (∀ y, y ≠ j → S'.2 14 y = S.2 14 y ∧ S'.2 15 y = S.2 15 y) ∧ (∀ y, y < 3 * j → S'.2 16 y = S.2 16 y) ∧ ((∃ q, fS c n p = some q ∧ r = 0 ∧ S'.1 18 = nI q) ∨ (fS c n p = none ∧ r = 1 ∧ S'.1 18 = nI (p + dN c p + 2) ∧ S'.2 14 j = nI (c p) ∧ S'.2 15 j = nI p ∧ ∀ i, i < na (c p) → S'.2 16 (3 * j + i) = nI (ar c (p + 1) (c p) i))) := by
  obtain ⟨h0, h96, hc⟩ := id hS
  unfold f_X8_statement
  rw [next_M hS hp h18, Option.bind_some]
  by_cases e : p < n
  · obtain ⟨g1, g2⟩ := hc p e
    have hj48 := hj e
    have hfS : fS c n p = (match dgL (c p) with | none => some p | some d => fD c n d (p + 1)) := by unfold fS; rw [if_pos e]; cases dgL (c p) <;> rfl
    rw [if_pos e, dgL_M _ g2, Option.bind_some]
    cases hd : dgL (c p) with
    | none =>
      rw [hd] at hfS
      rw [if_pos (by rfl)]
      exact ⟨_, _, rfl, fun _ _ => rfl, fun _ _ _ _ => rfl, fun _ _ => ⟨rfl, rfl⟩, fun _ _ => rfl, Or.inl ⟨p, hfS, rfl, h18⟩⟩
    | some d =>
      rw [hd] at hfS
      have hd3 := dgL_le hd
      have hdn : dN c p = d := by unfold dN; rw [hd]; rfl
      rw [if_neg (show ¬ (if (some d).isSome = true then (1 : Int32) else 0) = 0 by rw [Option.isSome_some, if_pos rfl]; decide), h19, if_pos (inb_nI hj48 (by decide)), if_pos (inb_nI hj48 (by decide)), nI_clamp (by omega), h18, show nI p + (1 : Int32) = nI (p + 1) from nI_1 p, show (3 : Int32) * nI j = nI (3 * j) by rw [show (3 : Int32) = nI 3 from rfl, pk_mul]]
      have hS1 : LM c n (su (sa (sa S 14 (upd (S.2 14) j (nI (c p)))) 15 (upd (S.2 15) j (nI p))) 18 (nI (p + 1))) := ⟨by rw [su_n (by decide)]; exact h0, h96, fun k hk => by rw [su_a, sa_n (by decide), sa_n (by decide)]; exact hc k hk⟩
      obtain ⟨r, S', e1, ⟨f1, f2, f3⟩, hr⟩ := readsAll_M (v := 3 * j) hS1 (by omega : p + 1 ≤ n) su_s (by omega) hd
      rw [e1, Option.bind_some]
      have fr1 : ∀ x, x ≠ 18 → S'.1 x = S.1 x := fun x hx => by rw [f1 x hx, su_n hx]; rfl
      have fr2 : ∀ x, x ≠ 14 → x ≠ 15 → x ≠ 16 → S'.2 x = S.2 x := fun x x1 x2 x3 => by rw [f2 x x3, su_a, sa_n x2, sa_n x1]
      have fr14 : S'.2 14 = upd (S.2 14) j (nI (c p)) := by rw [f2 14 (by decide), su_a, sa_n (by decide), sa_s]
      have fr15 : S'.2 15 = upd (S.2 15) j (nI p) := by rw [f2 15 (by decide), su_a, sa_s]
      have fr3 : ∀ y, y ≠ j → S'.2 14 y = S.2 14 y ∧ S'.2 15 y = S.2 15 y := fun y hy => by rw [fr14, fr15, upd_n hy, upd_n hy]; exact ⟨rfl, rfl⟩
      have fr4 : ∀ y, y < 3 * j → S'.2 16 y = S.2 16 y := fun y hy => by rw [f3 y (by omega), su_a, sa_n (by decide), sa_n (by decide)]
      rcases hr with ⟨b, b1, b2, b3, rfl, b5⟩ | ⟨b1, rfl, b3, b4⟩
      · rw [if_pos rfl]
        refine ⟨_, _, rfl, fr1, fr2, fr3, fr4, Or.inl ⟨p + 1 + b, ?_, rfl, b5⟩⟩
        rw [hfS]
        exact fD_no b1 b2 b3
      · have hq : p + 1 + d ≤ n := by
          cases d with
          | zero => omega
          | succ d => have := (b1 d (by omega)).1; omega
        have hS2 : LM c n S' := ⟨by rw [fr1 17 (by decide)]; exact h0, h96, fun k hk => by rw [fr2 13 (by decide) (by decide) (by decide)]; exact hc k hk⟩
        have hy := fD_yes b1
        simp only [n10, ↓reduceIte]
        rw [next_M hS2 hq b3, Option.bind_some]
        by_cases e2 : p + 1 + d < n ∧ c (p + 1 + d) = 59
        · rw [if_pos e2] at hy
          rw [if_pos e2.1, if_pos (show nI (c (p + 1 + d)) = (59 : Int32) by rw [e2.2]; rfl), b3]
          refine ⟨_, _, rfl, fun x hx => by rw [su_n hx]; exact fr1 x hx, fr2, fr3, fr4, Or.inr ⟨hfS.trans hy, rfl, ?_, ?_, ?_, b4⟩⟩
          · rw [su_s, hdn]
            exact (nI_1 _).trans (congrArg nI (by omega))
          · rw [su_a, fr14, upd_s]
          · rw [su_a, fr15, upd_s]
        · rw [if_neg e2] at hy
          have : ¬ (if p + 1 + d < n then nI (c (p + 1 + d)) else -1) = (59 : Int32) := by
            by_cases e3 : p + 1 + d < n
            · rw [if_pos e3]
              have := (hc _ e3).2
              exact fun z => e2 ⟨e3, (nI_eq (b := 59) (by omega) (by decide)).mp z⟩
            · rw [if_neg e3]; decide
          rw [if_neg this]
          exact ⟨_, _, rfl, fr1, fr2, fr3, fr4, Or.inl ⟨p + 1 + d, hfS.trans hy, rfl, b3⟩⟩
  · have hfS : fS c n p = some p := by unfold fS; rw [if_neg e]
    rw [if_neg e, isl_no, Option.bind_some, if_pos rfl]
    exact ⟨_, _, rfl, fun _ _ => rfl, fun _ _ _ _ => rfl, fun _ _ => ⟨rfl, rfl⟩, fun _ _ => rfl, Or.inl ⟨p, hfS, rfl, h18⟩⟩
/-- where the statements begin -/
def stp (c : Nat → Nat) : Nat → Nat
  | 0 => 0
  | i + 1 => stp c i + dN c (stp c i) + 2
theorem stp_ge {c : Nat → Nat} : ∀ i, 2 * i ≤ stp c i
  | 0 => Nat.le_refl _
  | i + 1 => by have := stp_ge (c := c) i; rw [stp]; omega
theorem fA_st {c : Nat → Nat} {n : Nat} : ∀ (j k : Nat), (∀ i, i < j → stp c i < n ∧ fS c n (stp c i) = none) → fA c n (k + j) 0 = fA c n k (stp c j)
  | 0, _, _ => rfl
  | j + 1, k, h => by
    obtain ⟨h1, h2⟩ := h j (by omega)
    rw [show k + (j + 1) = (k + 1) + j by omega, fA_st j (k + 1) (fun i hi => h i (by omega)), fA, if_pos h1, h2]
    rfl
