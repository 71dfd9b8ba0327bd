/-! PURE: one statement, both sides: which it is -/
theorem StepE_r {V : Nat → Nat → Nat} {S : OS} {a : Option (Int32 × OS)} {b b' : Option (Int32 × OS)} (h : StepE V S a b) (e : b' = b.bind (fun x3 => if isB x3.1 = true then some (x3.1, x3.2) else none)) : StepE V S (a.bind fun x5 => some (x5.1, x5.2)) b' := by
  subst e
  rcases h with ⟨x, T', S', rfl, h2, rfl, h4⟩ | ⟨r, V', T', S', h1, rfl, rfl, h4⟩
  · exact Or.inl ⟨x, T', S', rfl, h2, rfl, h4⟩
  · exact Or.inr ⟨r, V', T', S', h1, rfl, rfl, h4⟩
theorem StepE_l {V : Nat → Nat → Nat} {S : OS} {a : Option (Int32 × OS)} {b : Option (Int32 × OS)} (h : StepE V S a b) : StepE V S (a.bind fun x5 => some (x5.1, x5.2)) b := by
  rcases h with ⟨x, T', S', rfl, h2, h3, h4⟩ | ⟨r, V', T', S', h1, rfl, h3, h4⟩
  · exact Or.inl ⟨x, T', S', rfl, h2, h3, h4⟩
  · exact Or.inr ⟨r, V', T', S', h1, rfl, h3, h4⟩
theorem some_i {α : Type} {o : Option α} {x y : α} (h1 : o = some x) (h2 : o = some y) : x = y := by
  rw [h1] at h2; cases h2; rfl
theorem dv2 {c : Nat → Nat} {p : Nat} : dv c (p + 1) 2 = 10 * (c (p + 1) - 48) + (c (p + 2) - 48) := by
  show 10 * (10 * 0 + (c (p + 1) - 48)) + (c (p + 2) - 48) = _
  omega
theorem dv3 {c : Nat → Nat} {p : Nat} : dv c (p + 1) 3 = 100 * (c (p + 1) - 48) + 10 * (c (p + 2) - 48) + (c (p + 3) - 48) := by
  show 10 * (10 * (10 * 0 + (c (p + 1) - 48)) + (c (p + 2) - 48)) + (c (p + 3) - 48) = _
  omega
theorem step_T {c : Nat → Nat} {n p i : Nat} {V : Nat → Nat → Nat} {T S P : OS} (hP : LT c n P) (hf : fS c n p = none) (hi : i < 48) (h14 : S.2 14 i = nI (c p)) (h16 : ∀ a, a < na (c p) → S.2 16 (3 * i + a) = nI (ar c (p + 1) (c p) a)) (hT : TR V T) (hM : MR V S) (hB : WB V) (hL : WL V) : StepE V S (f_X0_runStatement P T (nI p)) (f_X8_comes S (nI i)) := by
  obtain ⟨d, hd, hdn, d3, hlt, h59, hdig⟩ := fS_ok hf
  obtain ⟨h0, h96, hc⟩ := id hP
  have hp := hc p (by omega)
  have w0 : ∀ j, j < d → f_X7_at 96 (P.2 1) (nI (p + 1 + j)) = some (nI (c (p + 1 + j))) ∧ nI (c (p + 1 + j)) - (48 : Int32) = nI (c (p + 1 + j) - 48) := fun j hj => dg1 hP hlt hj hdig
  obtain ⟨y1, hy1⟩ := at_tot (N := 96) (f := P.2 1) (v := nI (p + 1)) (by decide)
  obtain ⟨y2, hy2⟩ := at_tot (N := 96) (f := P.2 1) (v := nI (p + 2)) (by decide)
  obtain ⟨y3, hy3⟩ := at_tot (N := 96) (f := P.2 1) (v := nI (p + 3)) (by decide)
  have z1 : 0 < d → y1 - (48 : Int32) = nI (c (p + 1) - 48) := fun h => by
    have := some_i hy1 (w0 0 h).1
    rw [this]; exact (w0 0 h).2
  have z2 : 1 < d → y2 - (48 : Int32) = nI (c (p + 2) - 48) := fun h => by
    have := some_i hy2 (w0 1 h).1
    rw [this]; exact (w0 1 h).2
  have z3 : 2 < d → y3 - (48 : Int32) = nI (c (p + 3) - 48) := fun h => by
    have := some_i hy3 (w0 2 h).1
    rw [this]; exact (w0 2 h).2
  have b1 : 0 < d → 48 ≤ c (p + 1) ∧ c (p + 1) ≤ 57 := fun h => hdig 0 h
  have b2 : 1 < d → 48 ≤ c (p + 2) ∧ c (p + 2) ≤ 57 := fun h => hdig 1 h
  have b3 : 2 < d → 48 ≤ c (p + 3) ∧ c (p + 3) ≤ 57 := fun h => hdig 2 h
  unfold f_X0_runStatement f_X8_comes
  rw [show nI p + (1 : Int32) = nI (p + 1) from nI_1 p, show nI p + (2 : Int32) = nI (p + 2) from nI_add p 2, show nI p + (3 : Int32) = nI (p + 3) from nI_add p 3, hy1, Option.bind_some, hy2, Option.bind_some, hy3, Option.bind_some, at_in (by omega : p < 96) (by decide), Option.bind_some, hp.1]
  simp only [inb_nI hi (show 48 < 2 ^ 31 by decide), nI_clamp (show i < 2 ^ 31 by omega), ↓reduceIte, h14]
  rw [show (3 : Int32) * nI i = nI (3 * i) by rw [show (3 : Int32) = nI 3 from rfl, pk_mul]]
  simp only [show nI (3 * i) + (1 : Int32) = nI (3 * i + 1) from nI_1 _, inb_nI (show 3 * i < 144 by omega) (show 144 < 2 ^ 31 by decide), inb_nI (show 3 * i + 1 < 144 by omega) (show 144 < 2 ^ 31 by decide), nI_clamp (show 3 * i < 2 ^ 31 by omega), nI_clamp (show 3 * i + 1 < 2 ^ 31 by omega), ↓reduceIte]
  generalize c p = x at *
  unfold dgL at hd
  by_cases c1 : x = 100
  · subst c1
    rw [if_pos (by decide), if_pos (by decide)]
    exact StepE_l (st_day hT hM hB hL)
  · by_cases c2 : x = 104
    · subst c2
      cases hd
      have a0 := h16 0 (by decide)
      have t1 := b1 (by decide)
      have t2 := b2 (by decide)
      have v0 : (10 : Int32) * (y1 - 48) + (y2 - 48) = nI (dv c (p + 1) 2) := by
        rw [z1 (by decide), z2 (by decide), show (10 : Int32) = nI 10 from rfl, pk_mul, nI_add, dv2]
      have hle : dv c (p + 1) 2 ≤ 99 := by rw [dv2]; omega
      rw [if_neg (by decide), if_pos (by decide), if_neg (by decide), if_pos (by decide), v0, show S.2 16 (3 * i) = nI (dv c (p + 1) 2) from a0]
      exact StepE_l (st_hour hT hM hB hL hle)
    · by_cases c3 : x = 107
      · subst c3
        cases hd
        have a0 := h16 0 (by decide)
        have a1 := h16 1 (by decide)
        rw [if_neg (by decide), if_neg (by decide), if_pos (by decide), if_neg (by decide), if_neg (by decide), if_pos (by decide), z1 (by decide), z2 (by decide), show S.2 16 (3 * i) = nI (c (p + 1) - 48) from a0, show S.2 16 (3 * i + 1) = nI (c (p + 2) - 48) from a1]
        exact StepE_r (st_turn hT hM hB hL _ _) rfl
      · by_cases c4 : x = 109
        · subst c4
          cases hd
          have a0 := h16 0 (by decide)
          have t1 := b1 (by decide)
          have t2 := b2 (by decide)
          have v0 : (10 : Int32) * (y1 - 48) + (y2 - 48) = nI (dv c (p + 1) 2) := by
            rw [z1 (by decide), z2 (by decide), show (10 : Int32) = nI 10 from rfl, pk_mul, nI_add, dv2]
          have hle : dv c (p + 1) 2 ≤ 99 := by rw [dv2]; omega
          rw [if_neg (by decide), if_neg (by decide), if_neg (by decide), if_neg (by decide), if_pos (by decide), if_neg (by decide), if_neg (by decide), if_neg (by decide), if_pos (by decide), v0, show S.2 16 (3 * i) = nI (dv c (p + 1) 2) from a0]
          exact StepE_l (st_limit hT hM hB hL hle)
        · by_cases c5 : x = 116
          · subst c5
            cases hd
            have a0 := h16 0 (by decide)
            have a1 := h16 1 (by decide)
            rw [if_neg (by decide), if_neg (by decide), if_neg (by decide), if_neg (by decide), if_neg (by decide), if_neg (by decide), if_pos (by decide), if_neg (by decide), if_neg (by decide), if_neg (by decide), if_neg (by decide), if_pos (by decide), z1 (by decide), z2 (by decide), show S.2 16 (3 * i) = nI (c (p + 1) - 48) from a0, show S.2 16 (3 * i + 1) = nI (c (p + 2) - 48) from a1]
            exact StepE_r (st_test hT hM hB hL _ _) rfl
          · unfold f_X8_comesNew
            simp only [show nI (3 * i) + (1 : Int32) = nI (3 * i + 1) from nI_1 _, show nI (3 * i) + (2 : Int32) = nI (3 * i + 2) from nI_add _ 2, inb_nI (show 3 * i < 144 by omega) (show 144 < 2 ^ 31 by decide), inb_nI (show 3 * i + 1 < 144 by omega) (show 144 < 2 ^ 31 by decide), inb_nI (show 3 * i + 2 < 144 by omega) (show 144 < 2 ^ 31 by decide), nI_clamp (show 3 * i < 2 ^ 31 by omega), nI_clamp (show 3 * i + 1 < 2 ^ 31 by omega), nI_clamp (show 3 * i + 2 < 2 ^ 31 by omega), ↓reduceIte]
            by_cases c6 : x = 108
            · subst c6
              cases hd
              have a0 := h16 0 (by decide)
              have t1 := b1 (by decide)
              rw [if_neg (by decide), if_neg (by decide), if_neg (by decide), if_pos (by decide), if_neg (by decide), if_neg (by decide), if_neg (by decide), if_neg (by decide), if_neg (by decide), if_neg (by decide), if_neg (by decide), z1 (by decide), show S.2 16 (3 * i) = nI (c (p + 1) - 48) from a0]
              exact StepE_r (st_learner hT hM hB hL (by omega)) rfl
            · by_cases c7 : x = 115
              · subst c7
                cases hd
                have a0 := h16 0 (by decide)
                have a1 := h16 1 (by decide)
                have a2 := h16 2 (by decide)
                have t1 := b1 (by decide)
                have t2 := b2 (by decide)
                have t3 := b3 (by decide)
                rw [if_neg (by decide), if_neg (by decide), if_neg (by decide), if_neg (by decide), if_neg (by decide), if_pos (by decide), if_neg (by decide), if_neg (by decide), if_neg (by decide), if_neg (by decide), if_neg (by decide), if_pos (by decide), z1 (by decide), z2 (by decide), z3 (by decide), show S.2 16 (3 * i) = nI (c (p + 1) - 48) from a0, show S.2 16 (3 * i + 1) = nI (c (p + 2) - 48) from a1, show S.2 16 (3 * i + 2) = nI (c (p + 3) - 48) from a2]
                exact StepE_r (st_street hT hM hB hL (by omega) (by omega) (by omega)) rfl
              · by_cases c8 : x = 119
                · subst c8
                  cases hd
                  have a0 := h16 0 (by decide)
                  have t1 := b1 (by decide)
                  have t2 := b2 (by decide)
                  have t3 := b3 (by decide)
                  have v0 : (100 : Int32) * (y1 - 48) + (10 : Int32) * (y2 - 48) + (y3 - 48) = nI (dv c (p + 1) 3) := by
                    rw [z1 (by decide), z2 (by decide), z3 (by decide), show (10 : Int32) = nI 10 from rfl, show (100 : Int32) = nI 100 from rfl, pk_mul, pk_mul, nI_add, nI_add, dv3]
                  have hle : dv c (p + 1) 3 ≤ 999 := by rw [dv3]; omega
                  rw [if_neg (by decide), if_neg (by decide), if_neg (by decide), if_neg (by decide), if_neg (by decide), if_neg (by decide), if_neg (by decide), if_pos (by decide), if_neg (by decide), if_neg (by decide), if_neg (by decide), if_neg (by decide), if_neg (by decide), if_neg (by decide), if_pos (by decide), v0, show S.2 16 (3 * i) = nI (dv c (p + 1) 3) from a0]
                  exact StepE_r (st_way hT hM hB hL hle) rfl
                · rw [if_neg c1, if_neg c2, if_neg c3, if_neg c6, if_neg c4, if_neg c7, if_neg c5, if_neg c8] at hd
                  cases hd
