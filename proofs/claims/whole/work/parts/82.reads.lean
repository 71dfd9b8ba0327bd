/-! PURE: the reference's reading -/
def dig (c : Nat → Nat) (n q : Nat) : Prop := q < n ∧ 48 ≤ c q ∧ c q ≤ 57
theorem fD_no {c : Nat → Nat} {n : Nat} : ∀ {d q b : Nat}, b < d → (∀ i, i < b → dig c n (q + i)) → ¬ dig c n (q + b) → fD c n d q = some (q + b)
  | d + 1, q, 0, _, _, h => by rw [fD, if_neg (show ¬ (q < n ∧ 48 ≤ c q ∧ c q ≤ 57) from h)]; rfl
  | d + 1, q, b + 1, hb, h1, h2 => by
    have h0 : dig c n q := h1 0 (by omega)
    rw [fD, if_pos (show q < n ∧ 48 ≤ c q ∧ c q ≤ 57 from h0), fD_no (by omega : b < d) (fun i hi => by rw [show q + 1 + i = q + (i + 1) by omega]; exact h1 (i + 1) (by omega)) (by rw [show q + 1 + b = q + (b + 1) by omega]; exact h2)]
    congr 1
    omega
theorem fD_yes {c : Nat → Nat} {n : Nat} : ∀ {d q : Nat}, (∀ i, i < d → dig c n (q + i)) → fD c n d q = if q + d < n ∧ c (q + d) = 59 then none else some (q + d)
  | 0, q, _ => rfl
  | d + 1, q, h => by
    have h0 : dig c n q := h 0 (by omega)
    rw [fD, if_pos (show q < n ∧ 48 ≤ c q ∧ c q ≤ 57 from h0), fD_yes (fun i hi => by rw [show q + 1 + i = q + (i + 1) by omega]; exact h (i + 1) (by omega)), show q + 1 + d = q + (d + 1) by omega]
/-- the letters there -/
def LM (c : Nat → Nat) (n : Nat) (S : OS) : Prop := S.1 17 = nI n ∧ n ≤ 96 ∧ ∀ k, k < n → S.2 13 k = nI (c k) ∧ c k < 256
theorem next_M {c : Nat → Nat} {n q : Nat} {S : OS} (hS : LM c n S) (hq : q ≤ n) (h18 : S.1 18 = nI q) : f_X8_next S = some (if q < n then nI (c q) else -1) := by
  obtain ⟨h0, h96, hc⟩ := hS
  unfold f_X8_next
  rw [h0, h18]
  by_cases e : q < n
  · rw [if_neg (nI_ge e (by omega)), if_pos e, if_pos (inb_nI (by omega : q < 96) (by decide)), nI_clamp (by omega), (hc q e).1]
  · rw [if_pos (nI_le (by omega) (by omega)), if_neg e]
/-- a number of digits -/
def dv (c : Nat → Nat) (q : Nat) : Nat → Nat
  | 0 => 0
  | k + 1 => 10 * dv c q k + (c (q + k) - 48)
theorem dv_le {c : Nat → Nat} {n q : Nat} : ∀ {k : Nat}, (∀ i, i < k → dig c n (q + i)) → dv c q k + 1 ≤ 10 ^ k
  | 0, _ => Nat.le_refl _
  | k + 1, h => by
    have h1 := dv_le (k := k) (fun i hi => h i (by omega))
    have h2 := (h k (by omega)).2
    rw [dv, Nat.pow_succ]
    omega
def Fr (S S' : OS) (v : Nat) : Prop := (∀ x, x ≠ 18 → S'.1 x = S.1 x) ∧ (∀ x, x ≠ 16 → S'.2 x = S.2 x) ∧ ∀ x, x ≠ v → S'.2 16 x = S.2 16 x
theorem isdig_M {c : Nat → Nat} {n q : Nat} (h : q < n → c q < 256) : f_X8_isIn (if q < n then nI (c q) else -1) 48 57 = some (if q < n ∧ 48 ≤ c q ∧ c q ≤ 57 then 1 else 0) := by
  by_cases e : q < n
  · rw [if_pos e]
    have hc := h e
    unfold f_X8_isIn
    by_cases e1 : c q < 48
    · rw [if_pos (show nI (c q) < (48 : Int32) from nI_lt (b := 48) e1 (by decide)), if_neg (by omega)]
    · rw [if_neg (show ¬ nI (c q) < (48 : Int32) from nI_nlt (b := 48) (by omega) (by omega))]
      by_cases e2 : c q ≤ 57
      · rw [if_neg (show ¬ (57 : Int32) < nI (c q) from nI_nlt (a := 57) e2 (by decide)), if_pos ⟨e, by omega, e2⟩]
      · rw [if_pos (show (57 : Int32) < nI (c q) from nI_lt (a := 57) (by omega) (by omega)), if_neg (by omega)]
  · rw [if_neg e, if_neg (fun z => e z.1)]
    decide
theorem reads_M {c : Nat → Nat} {n q v d : Nat} {S : OS} (hS : LM c n S) (hq : q ≤ n) (h18 : S.1 18 = nI q) (hv : v < 144) (hd : d ≤ 3) : ∃ r S', f_X8_readsDigits S (nI v) (nI d) = some (r, S') ∧ Fr S S' v ∧ ((∃ b, b < d ∧ (∀ i, i < b → dig c n (q + i)) ∧ ¬ dig c n (q + b) ∧ r = 0 ∧ S'.1 18 = nI (q + b)) ∨ ((∀ i, i < d → dig c n (q + i)) ∧ r = 1 ∧ S'.1 18 = nI (q + d) ∧ S'.2 16 v = nI (dv c q d))) := by
  obtain ⟨h0, h96, hc⟩ := id hS
  have key : ∀ (m i fuel : Nat), i + m = d → m < fuel → (∀ j, j < i → dig c n (q + j)) → ∃ r S', Lp3 (b_X8_readsDigits_5 (nI v) (nI d)) fuel (nI (dv c q i)) (nI i) (su S 18 (nI (q + i))) = some (r, S') ∧ Fr S S' v ∧ ((∃ b, b < d ∧ (∀ i, i < b → dig c n (q + i)) ∧ ¬ dig c n (q + b) ∧ r = 0 ∧ S'.1 18 = nI (q + b)) ∨ ((∀ i, i < d → dig c n (q + i)) ∧ r = 1 ∧ S'.1 18 = nI (q + d) ∧ S'.2 16 v = nI (dv c q d))) := by
    intro m
    induction m with
    | zero =>
      intro i fuel hi hf hj
      have hid : i = d := by omega
      subst hid
      obtain ⟨fuel, rfl⟩ : ∃ f, fuel = f + 1 := ⟨fuel - 1, by omega⟩
      rw [Lp3]
      unfold b_X8_readsDigits_5 j_X8_readsDigits_56
      rw [if_pos (nI_le (Nat.le_refl _) (by omega)), if_pos (inb_nI hv (by decide)), nI_clamp (by omega)]
      refine ⟨_, _, rfl, ⟨fun x hx => by rw [sa_i, su_n hx], fun x hx => by rw [sa_n hx]; rfl, fun x hx => by rw [sa_s, upd_n hx]; rfl⟩, Or.inr ⟨hj, rfl, by rw [sa_i, su_s], by rw [sa_s, upd_s]⟩⟩
    | succ m ih =>
      intro i fuel hi hf hj
      obtain ⟨fuel, rfl⟩ : ∃ f, fuel = f + 1 := ⟨fuel - 1, by omega⟩
      have hqi : q + i ≤ n := by
        cases i with
        | zero => omega
        | succ i => have := (hj i (by omega)).1; omega
      have hX : LM c n (su S 18 (nI (q + i))) := ⟨by rw [su_n (by decide)]; exact h0, h96, hc⟩
      have hnext := next_M hX hqi su_s
      rw [Lp3]
      have ih2 := ih (i + 1) fuel (by omega) (by omega)
      generalize Lp3 (b_X8_readsDigits_5 (nI v) (nI d)) fuel = G at ih2 ⊢
      unfold b_X8_readsDigits_5
      rw [if_neg (nI_ge (by omega) (by omega)), hnext, Option.bind_some, isdig_M (fun h => (hc _ h).2), Option.bind_some]
      by_cases e : dig c n (q + i)
      · have e' : q + i < n ∧ 48 ≤ c (q + i) ∧ c (q + i) ≤ 57 := e
        have hdv := dv_le hj
        have h10 : 10 ^ i ≤ 10 ^ 3 := Nat.pow_le_pow_right (by decide) (by omega)
        rw [if_pos e', if_neg n10, Option.bind_some, if_pos e'.1, su_s, su_up, show nI i + (1 : Int32) = nI (i + 1) from nI_1 i, show nI (q + i) + (1 : Int32) = nI (q + (i + 1)) from nI_1 _, show (10 : Int32) = nI 10 from rfl, pk_mul, nI_add, show nI (10 * dv c q i + c (q + i)) - (48 : Int32) = nI (dv c q (i + 1)) by
          rw [show (48 : Int32) = nI 48 from rfl, pk_sub (by omega), dv]
          congr 1
          omega]
        refine ih2 (fun j hj2 => ?_)
        by_cases ej : j = i
        · subst ej; exact e
        · exact hj j (by omega)
      · have e' : ¬ (q + i < n ∧ 48 ≤ c (q + i) ∧ c (q + i) ≤ 57) := e
        rw [if_neg e', if_pos rfl]
        exact ⟨_, _, rfl, ⟨fun x hx => su_n hx, fun _ _ => rfl, fun _ _ => rfl⟩, Or.inl ⟨i, by omega, hj, e, rfl, su_s⟩⟩
  have := key d 0 FU (by omega) (by rw [FU_1000]; omega) (fun j hj => by omega)
  unfold f_X8_readsDigits
  rw [Nat.add_zero, su_id h18] at this
  exact this
