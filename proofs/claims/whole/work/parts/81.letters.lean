/-! PURE: letters: is every one right -/
/-- numbers behind a letter -/
def dgL (x : Nat) : Option Nat := if x = 100 then some 0 else if x = 104 then some 2 else if x = 107 then some 2 else if x = 108 then some 1 else if x = 109 then some 2 else if x = 115 then some 3 else if x = 116 then some 2 else if x = 119 then some 3 else none
theorem dgL_C : ∀ x, x < 256 → f_X0_digitsBehind (nI x) = some (match dgL x with | none => -1 | some d => nI d) := by decide +kernel
theorem dgL_M : ∀ x, x < 256 → f_X8_isLetter (nI x) = some (if (dgL x).isSome then 1 else 0) := by decide +kernel
theorem dgL_le : ∀ {x d : Nat}, dgL x = some d → d ≤ 3 := by
  intro x d h
  unfold dgL at h
  repeat' split at h
  all_goals first | (cases h; omega) | (cases h)
/-- d numbers and the end: the first wrong letter -/
def fD (c : Nat → Nat) (n : Nat) : Nat → Nat → Option Nat
  | 0, q => if q < n ∧ c q = 59 then none else some q
  | d + 1, q => if q < n ∧ 48 ≤ c q ∧ c q ≤ 57 then fD c n d (q + 1) else some q
/-- a statement: the first wrong letter -/
def fS (c : Nat → Nat) (n p : Nat) : Option Nat := if p < n then (match dgL (c p) with | none => some p | some d => fD c n d (p + 1)) else some p
def dN (c : Nat → Nat) (p : Nat) : Nat := (dgL (c p)).getD 0
theorem fD_ok {c : Nat → Nat} {n : Nat} : ∀ {d q : Nat}, fD c n d q = none → q + d < n ∧ c (q + d) = 59 ∧ ∀ i, i < d → 48 ≤ c (q + i) ∧ c (q + i) ≤ 57
  | 0, q, h => by
    rw [fD] at h
    by_cases e : q < n ∧ c q = 59
    · exact ⟨e.1, e.2, fun i hi => by omega⟩
    · rw [if_neg e] at h; cases h
  | d + 1, q, h => by
    rw [fD] at h
    by_cases e : q < n ∧ 48 ≤ c q ∧ c q ≤ 57
    · rw [if_pos e] at h
      obtain ⟨h1, h2, h3⟩ := fD_ok h
      refine ⟨by omega, by rw [show q + (d + 1) = q + 1 + d by omega]; exact h2, fun i hi => ?_⟩
      cases i with
      | zero => exact e.2
      | succ i => rw [show q + (i + 1) = q + 1 + i by omega]; exact h3 i (by omega)
    · rw [if_neg e] at h; cases h
theorem fD_le {c : Nat → Nat} {n : Nat} : ∀ {d q r : Nat}, fD c n d q = some r → q ≤ n → q ≤ r ∧ r ≤ n
  | 0, q, r, h, hq => by
    rw [fD] at h
    by_cases e : q < n ∧ c q = 59
    · rw [if_pos e] at h; cases h
    · rw [if_neg e] at h; cases h; exact ⟨Nat.le_refl _, hq⟩
  | d + 1, q, r, h, hq => by
    rw [fD] at h
    by_cases e : q < n ∧ 48 ≤ c q ∧ c q ≤ 57
    · rw [if_pos e] at h
      have := fD_le h (by omega)
      omega
    · rw [if_neg e] at h; cases h; exact ⟨Nat.le_refl _, hq⟩
theorem fS_ok {c : Nat → Nat} {n p : Nat} (h : fS c n p = none) : ∃ d, dgL (c p) = some d ∧ dN c p = d ∧ d ≤ 3 ∧ p + d + 1 < n ∧ c (p + d + 1) = 59 ∧ ∀ i, i < d → 48 ≤ c (p + 1 + i) ∧ c (p + 1 + i) ≤ 57 := by
  unfold fS at h
  by_cases e : p < n
  · rw [if_pos e] at h
    cases hd : dgL (c p) with
    | none => rw [hd] at h; cases h
    | some d =>
      rw [hd] at h
      obtain ⟨h1, h2, h3⟩ := fD_ok h
      exact ⟨d, rfl, by unfold dN; rw [hd]; rfl, dgL_le hd, by omega, by rw [show p + d + 1 = p + 1 + d by omega]; exact h2, h3⟩
  · rw [if_neg e] at h; cases h
/-- all statements from p on: the first wrong letter (k of them at most) -/
def fA (c : Nat → Nat) (n : Nat) : Nat → Nat → Option Nat
  | 0, _ => none
  | k + 1, p => if p < n then (match fS c n p with | some q => some q | none => fA c n k (p + dN c p + 2)) else none
/-- the class's reading -/
def LT (c : Nat → Nat) (n : Nat) (P : OS) : Prop := P.1 0 = nI n ∧ n ≤ 96 ∧ ∀ k, k < n → P.2 1 k = nI (c k) ∧ c k < 256
/-- inside a statement, d numbers to come -/
theorem in_S {c : Nat → Nat} {n : Nat} {P : OS} (hP : LT c n P) (hn : 0 < n) : ∀ (d q fuel : Nat), d ≤ 3 → q ≤ n → n - q < fuel → (∀ r, fD c n d q = some r → Lp3 (b_X0_firstWrongLetter_6 P) fuel 0 (nI d) (nI q) = some (nI r)) ∧ (fD c n d q = none → ∃ fuel', n - (q + d + 1) < fuel' ∧ Lp3 (b_X0_firstWrongLetter_6 P) fuel 0 (nI d) (nI q) = Lp3 (b_X0_firstWrongLetter_6 P) fuel' 1 0 (nI (q + d + 1)))
  | d, q, fuel, hd, hq, hf => by
    obtain ⟨h0, h96, hc⟩ := id hP
    obtain ⟨fuel, rfl⟩ : ∃ f, fuel = f + 1 := ⟨fuel - 1, by omega⟩
    have ih := fun d' (e : d = d' + 1) (hf' : n - (q + 1) < fuel) (hq' : q + 1 ≤ n) => in_S hP hn d' (q + 1) fuel (by omega) hq' hf'
    have hstep : Lp3 (b_X0_firstWrongLetter_6 P) (fuel + 1) 0 (nI d) (nI q) = b_X0_firstWrongLetter_6 P (Lp3 (b_X0_firstWrongLetter_6 P) fuel) 0 (nI d) (nI q) := by rw [Lp3]
    rw [hstep]
    clear hstep
    generalize Lp3 (b_X0_firstWrongLetter_6 P) = G at ih ⊢
    unfold b_X0_firstWrongLetter_6 j_X0_firstWrongLetter_88 j_X0_firstWrongLetter_82
    rw [h0]
    by_cases e : q = n
    · subst e
      rw [if_pos (nI_le (Nat.le_refl _) (by omega)), if_neg (nI_nle hn (by omega)), if_pos rfl]
      have : fD c q d q = some q := by
        cases d with
        | zero => rw [fD, if_neg (by omega)]
        | succ d => rw [fD, if_neg (by omega)]
      rw [this]
      exact ⟨fun r hr => by cases hr; rfl, fun h => by cases h⟩
    · have hlt : q < n := by omega
      obtain ⟨g1, g2⟩ := hc q hlt
      rw [if_neg (nI_ge hlt (by omega)), at_in (by omega : q < 96) (by decide), Option.bind_some, g1, if_pos rfl, show nI q + (1 : Int32) = nI (q + 1) from nI_1 q]
      cases d with
      | zero =>
        rw [if_pos (by decide), fD]
        by_cases e2 : c q = 59
        · rw [if_pos (show nI (c q) = (59 : Int32) by rw [e2]; rfl), if_pos ⟨hlt, e2⟩]
          exact ⟨fun r hr => (by cases hr), fun _ => ⟨fuel, by omega, rfl⟩⟩
        · rw [if_neg (fun z : nI (c q) = (59 : Int32) => e2 ((nI_eq (b := 59) (by omega) (by decide)).mp z)), if_neg (fun z => e2 z.2)]
          exact ⟨fun r hr => by cases hr; rfl, fun h => by cases h⟩
      | succ d =>
        have hdec : nI (d + 1) + (-1 : Int32) = nI d := by rw [← Int32.sub_eq_add_neg, m1_add]
        rw [if_neg (nI_nle (by omega) (by omega)), fD, hdec]
        by_cases e2 : c q < 48
        · rw [if_pos (show nI (c q) < (48 : Int32) from nI_lt (b := 48) e2 (by decide)), if_neg (by omega)]
          exact ⟨fun r hr => by cases hr; rfl, fun h => by cases h⟩
        · rw [if_neg (show ¬ nI (c q) < (48 : Int32) from nI_nlt (b := 48) (by omega) (by omega))]
          by_cases e3 : c q ≤ 57
          · obtain ⟨i1, i2⟩ := ih d rfl (by omega) (by omega)
            rw [if_pos (show nI (c q) ≤ (57 : Int32) from nI_le (b := 57) e3 (by decide)), if_pos ⟨hlt, by omega, e3⟩]
            refine ⟨i1, fun h => ?_⟩
            obtain ⟨f', a1, a2⟩ := i2 h
            refine ⟨f', by omega, ?_⟩
            rw [a2, show q + 1 + d + 1 = q + (d + 1) + 1 by omega]
          · rw [if_neg (show ¬ nI (c q) ≤ (57 : Int32) from nI_ge (a := 57) (by omega) (by omega)), if_neg (by omega)]
            exact ⟨fun r hr => by cases hr; rfl, fun h => by cases h⟩
/-- between statements -/
theorem out_S {c : Nat → Nat} {n : Nat} {P : OS} (hP : LT c n P) (hn : 0 < n) : ∀ (k p fuel : Nat) (v2 : Int32), p ≤ n → n - p ≤ k → n - p < fuel → Lp3 (b_X0_firstWrongLetter_6 P) fuel 1 v2 (nI p) = some (match fA c n k p with | some r => nI r | none => -1)
  | k, p, fuel, v2, hp, hk, hf => by
    obtain ⟨h0, h96, hc⟩ := id hP
    obtain ⟨fuel, rfl⟩ : ∃ f, fuel = f + 1 := ⟨fuel - 1, by omega⟩
    rw [Lp3]
    have inn := fun d (hd : d ≤ 3) (hlt : p < n) => in_S hP hn d (p + 1) fuel hd (by omega) (by omega)
    generalize hG : Lp3 (b_X0_firstWrongLetter_6 P) fuel = G at inn
    unfold b_X0_firstWrongLetter_6 j_X0_firstWrongLetter_88 j_X0_firstWrongLetter_82
    rw [h0]
    by_cases e : p = n
    · subst e
      rw [if_pos (nI_le (Nat.le_refl _) (by omega)), if_neg (nI_nle hn (by omega)), if_neg n10]
      cases k with
      | zero => rfl
      | succ k => rw [fA, if_neg (by omega)]
    · have hlt : p < n := by omega
      obtain ⟨g1, g2⟩ := hc p hlt
      obtain ⟨k, rfl⟩ : ∃ j, k = j + 1 := ⟨k - 1, by omega⟩
      rw [if_neg (nI_ge hlt (by omega)), at_in (by omega : p < 96) (by decide), Option.bind_some, g1, if_neg n10, dgL_C _ g2, Option.bind_some, show nI p + (1 : Int32) = nI (p + 1) from nI_1 p, fA, if_pos hlt]
      have hS : fS c n p = (match dgL (c p) with | none => some p | some d => fD c n d (p + 1)) := by unfold fS; rw [if_pos hlt]
      cases hd : dgL (c p) with
      | none =>
        rw [hd] at hS
        rw [hS]
        rfl
      | some d =>
        rw [hd] at hS
        have hd3 := dgL_le hd
        obtain ⟨i1, i2⟩ := inn d hd3 hlt
        show (if 0 ≤ nI d then G 0 (nI d) (nI (p + 1)) else some (nI p)) = _
        rw [if_pos (nI_pos' (by omega)), hS]
        show _ = some (match (match fD c n d (p + 1) with | some q => some q | none => fA c n k (p + dN c p + 2)) with | some r => nI r | none => -1)
        cases hf2 : fD c n d (p + 1) with
        | some r => rw [i1 r hf2]
        | none =>
          obtain ⟨f', a1, a2⟩ := i2 hf2
          have hdn : dN c p = d := by unfold dN; rw [hd]; rfl
          have := fD_ok hf2
          rw [a2, out_S hP hn k (p + 1 + d + 1) f' 0 (by omega) (by omega) a1, hdn, show p + 1 + d + 1 = p + d + 2 by omega]
/-- the letters' first wrong one; none where all are right -/
def wrL (c : Nat → Nat) (n : Nat) : Option Nat := if n = 0 then some 0 else fA c n 97 0
theorem wrong_C {c : Nat → Nat} {n : Nat} {P : OS} (hP : LT c n P) : f_X0_firstWrongLetter P = some (match wrL c n with | some r => nI r | none => -1) := by
  obtain ⟨h0, h96, hc⟩ := id hP
  unfold f_X0_firstWrongLetter wrL
  by_cases e : n = 0
  · subst e
    rw [if_pos rfl, FU_1000, show (1000 : Nat) = 999 + 1 from rfl, Lp3]
    generalize Lp3 (b_X0_firstWrongLetter_6 P) 999 = G
    unfold b_X0_firstWrongLetter_6 j_X0_firstWrongLetter_88
    rw [h0, if_pos (by decide), if_pos (by decide)]
  · rw [if_neg e]
    exact out_S hP (by omega) 97 0 FU 0 (Nat.zero_le _) (by omega) (by rw [FU_1000]; omega)
