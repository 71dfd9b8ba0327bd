/-! PURE: the reference reads a statement -/
def Fw (S S' : OS) (v : Nat) : Prop := (∀ x, x ≠ 18 → S'.1 x = S.1 x) ∧ (∀ x, x ≠ 16 → S'.2 x = S.2 x) ∧ ∀ x, (x < v ∨ v + 3 ≤ x) → S'.2 16 x = S.2 16 x
theorem Fr_LM {c : Nat → Nat} {n v : Nat} {S S' : OS} (h : LM c n S) (f : Fr S S' v) : LM c n S' := ⟨by rw [f.1 17 (by decide)]; exact h.1, h.2.1, fun k hk => by rw [f.2.1 13 (by decide)]; exact h.2.2 k hk⟩
/-- what is read behind a letter x that stands before q -/
def ar (c : Nat → Nat) (q x i : Nat) : Nat := if x = 104 ∨ x = 109 then dv c q 2 else if x = 119 then dv c q 3 else c (q + i) - 48
def na (x : Nat) : Nat := if x = 100 then 0 else if x = 115 then 3 else if x = 107 ∨ x = 116 then 2 else 1
/-- read: wrong at b, or right -/
def Rd (c : Nat → Nat) (n q x v d : Nat) (r : Int32) (S' : OS) : Prop := (∃ b, b < d ∧ (∀ i, i < b → dig c n (q + i)) ∧ ¬ dig c n (q + b) ∧ r = 0 ∧ S'.1 18 = nI (q + b)) ∨ ((∀ i, i < d → dig c n (q + i)) ∧ r = 1 ∧ S'.1 18 = nI (q + d) ∧ ∀ i, i < na x → S'.2 16 (v + i) = nI (ar c q x i))
theorem rd1 {c : Nat → Nat} {n q v d x : Nat} {S : OS} (hS : LM c n S) (hq : q ≤ n) (h18 : S.1 18 = nI q) (hv : v < 144) (hd : d ≤ 3) (hn : na x = 1) (ha : ar c q x 0 = dv c q d) : ∃ r S', (f_X8_readsDigits S (nI v) (nI d)).bind (fun x1 => if isB x1.1 = true then some (x1.1, x1.2) else none) = some (r, S') ∧ Fw S S' v ∧ Rd c n q x v d r S' := by
  obtain ⟨r, S', e, f, h⟩ := reads_M hS hq h18 hv hd
  have hw : Fw S S' v := ⟨f.1, f.2.1, fun y hy => f.2.2 y (by omega)⟩
  rw [e, Option.bind_some]
  rcases h with ⟨b, h1, h2, h3, rfl, h5⟩ | ⟨h1, rfl, h3, h4⟩
  · exact ⟨_, _, rfl, hw, Or.inl ⟨b, h1, h2, h3, rfl, h5⟩⟩
  · exact ⟨_, _, rfl, hw, Or.inr ⟨h1, rfl, h3, fun i hi => by rw [hn] at hi; rw [show i = 0 by omega, ha]; exact h4⟩⟩
theorem rd2 {c : Nat → Nat} {n q v x : Nat} {S : OS} (hS : LM c n S) (hq : q ≤ n) (h18 : S.1 18 = nI q) (hv : v + 3 ≤ 144) (hn : na x = 2) (ha : ∀ i, ar c q x i = c (q + i) - 48) : ∃ r S', (f_X8_readsDigits S (nI v) 1).bind (fun x8 => if x8.1 = 0 then some ((0 : Int32), x8.2) else (f_X8_readsDigits x8.2 (nI v + 1) 1).bind fun x9 => if x9.1 = 0 then some ((0 : Int32), x9.2) else some ((1 : Int32), x9.2)) = some (r, S') ∧ Fw S S' v ∧ Rd c n q x v 2 r S' := by
  obtain ⟨r, S1, e, f, h⟩ := reads_M (d := 1) hS hq h18 (by omega : v < 144) (by decide)
  rw [show (1 : Int32) = nI 1 from rfl, e, Option.bind_some]
  rcases h with ⟨b, h1, h2, h3, rfl, h5⟩ | ⟨h1, rfl, h3, h4⟩
  · rw [if_pos rfl]
    exact ⟨_, _, rfl, ⟨f.1, f.2.1, fun y hy => f.2.2 y (by omega)⟩, Or.inl ⟨b, by omega, h2, h3, rfl, h5⟩⟩
  · have d0 : dig c n q := h1 0 (by decide)
    obtain ⟨r2, S2, e2, f2, g⟩ := reads_M (d := 1) (Fr_LM hS f) (by have := d0.1; omega : q + 1 ≤ n) h3 (by omega : v + 1 < 144) (by decide)
    simp only [n10, ↓reduceIte]
    rw [show nI v + nI 1 = nI (v + 1) from nI_1 v, e2, Option.bind_some]
    have hw : Fw S S2 v := ⟨fun y hy => by rw [f2.1 y hy, f.1 y hy], fun y hy => by rw [f2.2.1 y hy, f.2.1 y hy], fun y hy => by rw [f2.2.2 y (by omega), f.2.2 y (by omega)]⟩
    rcases g with ⟨b, g1, g2, g3, rfl, g5⟩ | ⟨g1, rfl, g3, g4⟩
    · rw [if_pos rfl]
      have hb0 : b = 0 := by omega
      subst hb0
      exact ⟨_, _, rfl, hw, Or.inl ⟨1, by omega, fun i hi => by rw [show i = 0 by omega]; exact d0, g3, rfl, g5⟩⟩
    · simp only [n10, ↓reduceIte]
      refine ⟨_, _, rfl, hw, Or.inr ⟨fun i hi => ?_, rfl, by rw [g3], fun i hi => ?_⟩⟩
      · rcases (by omega : i = 0 ∨ i = 1) with q | q
        · subst q; exact d0
        · subst q; exact g1 0 (by decide)
      · rw [hn] at hi
        rw [ha]
        rcases (by omega : i = 0 ∨ i = 1) with q | q
        · subst q
          rw [f2.2.2 _ (by omega)]
          rw [Nat.add_zero, h4, dv, dv]; congr 1; omega
        · subst q
          rw [g4, dv, dv, Nat.add_zero]; congr 1; omega
theorem rd3 {c : Nat → Nat} {n q v x : Nat} {S : OS} (hS : LM c n S) (hq : q ≤ n) (h18 : S.1 18 = nI q) (hv : v + 3 ≤ 144) (hn : na x = 3) (ha : ∀ i, ar c q x i = c (q + i) - 48) : ∃ r S', (f_X8_readsDigits S (nI v) 1).bind (fun x4 => if x4.1 = 0 then some ((0 : Int32), x4.2) else (f_X8_readsDigits x4.2 (nI v + 1) 1).bind fun x5 => if x5.1 = 0 then some ((0 : Int32), x5.2) else (f_X8_readsDigits x5.2 (nI v + 2) 1).bind fun x6 => if x6.1 = 0 then some ((0 : Int32), x6.2) else some ((1 : Int32), x6.2)) = some (r, S') ∧ Fw S S' v ∧ Rd c n q x v 3 r S' := by
  obtain ⟨r, S1, e, f, h⟩ := reads_M (d := 1) hS hq h18 (by omega : v < 144) (by decide)
  rw [show (1 : Int32) = nI 1 from rfl, show (2 : Int32) = nI 2 from rfl, e, Option.bind_some]
  rcases h with ⟨b, h1, h2, h3, rfl, h5⟩ | ⟨h1, rfl, h3, h4⟩
  · rw [if_pos rfl]
    exact ⟨_, _, rfl, ⟨f.1, f.2.1, fun y hy => f.2.2 y (by omega)⟩, Or.inl ⟨b, by omega, h2, h3, rfl, h5⟩⟩
  · have d0 : dig c n q := h1 0 (by decide)
    have hS1 := Fr_LM hS f
    obtain ⟨r2, S2, e2, f2, g⟩ := reads_M (d := 1) hS1 (by have := d0.1; omega : q + 1 ≤ n) h3 (by omega : v + 1 < 144) (by decide)
    simp only [n10, ↓reduceIte]
    rw [show nI v + nI 1 = nI (v + 1) from nI_1 v, show nI v + nI 2 = nI (v + 2) from nI_add v 2, e2, Option.bind_some]
    have hw : Fw S S2 v := ⟨fun y hy => by rw [f2.1 y hy, f.1 y hy], fun y hy => by rw [f2.2.1 y hy, f.2.1 y hy], fun y hy => by rw [f2.2.2 y (by omega), f.2.2 y (by omega)]⟩
    rcases g with ⟨b, g1, g2, g3, rfl, g5⟩ | ⟨g1, rfl, g3, g4⟩
    · rw [if_pos rfl]
      have hb0 : b = 0 := by omega
      subst hb0
      exact ⟨_, _, rfl, hw, Or.inl ⟨1, by omega, fun i hi => by rw [show i = 0 by omega]; exact d0, g3, rfl, g5⟩⟩
    · have d1 : dig c n (q + 1) := g1 0 (by decide)
      obtain ⟨r3, S3, e3, f3, k⟩ := reads_M (d := 1) (Fr_LM hS1 f2) (by have := d1.1; omega : q + 1 + 1 ≤ n) g3 (by omega : v + 2 < 144) (by decide)
      simp only [n10, ↓reduceIte]
      rw [e3, Option.bind_some]
      have hw3 : Fw S S3 v := ⟨fun y hy => by rw [f3.1 y hy, hw.1 y hy], fun y hy => by rw [f3.2.1 y hy, hw.2.1 y hy], fun y hy => by rw [f3.2.2 y (by omega), hw.2.2 y (by omega)]⟩
      rcases k with ⟨b, k1, k2, k3, rfl, k5⟩ | ⟨k1, rfl, k3, k4⟩
      · rw [if_pos rfl]
        have hb0 : b = 0 := by omega
        subst hb0
        refine ⟨_, _, rfl, hw3, Or.inl ⟨2, by omega, fun i hi => ?_, k3, rfl, k5⟩⟩
        rcases (by omega : i = 0 ∨ i = 1) with q | q
        · subst q; exact d0
        · subst q; exact d1
      · simp only [n10, ↓reduceIte]
        refine ⟨_, _, rfl, hw3, Or.inr ⟨fun i hi => ?_, rfl, by rw [k3], fun i hi => ?_⟩⟩
        · rcases (by omega : i = 0 ∨ i = 1 ∨ i = 2) with q | q | q
          · subst q; exact d0
          · subst q; exact d1
          · subst q; exact k1 0 (by decide)
        · rw [hn] at hi
          rw [ha]
          rcases (by omega : i = 0 ∨ i = 1 ∨ i = 2) with q | q | q
          · subst q
            rw [f3.2.2 _ (by omega), f2.2.2 _ (by omega)]
            rw [Nat.add_zero, h4, dv, dv]; congr 1; omega
          · subst q
            rw [f3.2.2 _ (by omega), g4, dv, dv, Nat.add_zero]; congr 1; omega
          · subst q
            rw [k4, dv, dv, Nat.add_zero, show q + 1 + 1 = q + 2 from rfl]; congr 1; omega
theorem readsAll_M {c : Nat → Nat} {n q v x d : Nat} {S : OS} (hS : LM c n S) (hq : q ≤ n) (h18 : S.1 18 = nI q) (hv : v + 3 ≤ 144) (hx : dgL x = some d) : ∃ r S', f_X8_readsAll S (nI x) (nI v) = some (r, S') ∧ Fw S S' v ∧ Rd c n q x v d r S' := by
  unfold f_X8_readsAll
  unfold dgL at hx
  by_cases c1 : x = 100
  · subst c1
    cases hx
    rw [if_pos (by decide)]
    exact ⟨_, _, rfl, ⟨fun _ _ => rfl, fun _ _ => rfl, fun _ _ => rfl⟩, Or.inr ⟨fun i hi => by omega, rfl, h18, fun i hi => by rw [show na 100 = 0 from rfl] at hi; omega⟩⟩
  · by_cases c2 : x = 104
    · subst c2
      cases hx
      rw [if_neg (by decide), if_pos (by decide)]
      exact rd1 (d := 2) hS hq h18 (by omega) (by decide) rfl rfl
    · by_cases c3 : x = 108
      · subst c3
        cases hx
        rw [if_neg (by decide), if_neg (by decide), if_pos (by decide)]
        refine rd1 (d := 1) hS hq h18 (by omega) (by decide) rfl ?_
        show c (q + 0) - 48 = _
        rw [dv, dv]; omega
      · by_cases c4 : x = 109
        · subst c4
          cases hx
          rw [if_neg (by decide), if_neg (by decide), if_neg (by decide), if_pos (by decide)]
          exact rd1 (d := 2) hS hq h18 (by omega) (by decide) rfl rfl
        · by_cases c5 : x = 115
          · subst c5
            cases hx
            rw [if_neg (by decide), if_neg (by decide), if_neg (by decide), if_neg (by decide), if_pos (by decide)]
            exact rd3 hS hq h18 hv rfl (fun i => rfl)
          · by_cases c6 : x = 119
            · subst c6
              cases hx
              rw [if_neg (by decide), if_neg (by decide), if_neg (by decide), if_neg (by decide), if_neg (by decide), if_pos (by decide)]
              exact rd1 (d := 3) hS hq h18 (by omega) (by decide) rfl rfl
            · by_cases c7 : x = 107
              · subst c7
                cases hx
                rw [if_neg (by decide), if_neg (by decide), if_neg (by decide), if_neg (by decide), if_neg (by decide), if_neg (by decide)]
                exact rd2 hS hq h18 hv rfl (fun i => rfl)
              · by_cases c8 : x = 116
                · subst c8
                  cases hx
                  rw [if_neg (by decide), if_neg (by decide), if_neg (by decide), if_neg (by decide), if_neg (by decide), if_neg (by decide)]
                  exact rd2 hS hq h18 hv rfl (fun i => rfl)
                · rw [if_neg c1, if_neg c2, if_neg c7, if_neg c3, if_neg c4, if_neg c5, if_neg c8, if_neg c6] at hx
                  cases hx
