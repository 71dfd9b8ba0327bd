/-! PURE: the first best of a row -/
def amS (bet : Nat → Nat → Bool) (p : Nat → Bool) (o : Option Nat) (i : Nat) : Option Nat := if p i then (match o with
  | none => some i
  | some b => if bet i b then some i else some b) else o
def amo (bet : Nat → Nat → Bool) (p : Nat → Bool) : Nat → Option Nat
  | 0 => none
  | n + 1 => amS bet p (amo bet p n) n
theorem amS_p {bet : Nat → Nat → Bool} {p : Nat → Bool} {o : Option Nat} {i : Nat} (h : p i = false) : amS bet p o i = o := by simp [amS, h]
theorem amS_n {bet : Nat → Nat → Bool} {p : Nat → Bool} {i : Nat} (h : p i = true) : amS bet p none i = some i := by simp [amS, h]
theorem amS_t {bet : Nat → Nat → Bool} {p : Nat → Bool} {i b : Nat} (h : p i = true) (h2 : bet i b = true) : amS bet p (some b) i = some i := by simp [amS, h, h2]
theorem amS_f {bet : Nat → Nat → Bool} {p : Nat → Bool} {i b : Nat} (h2 : bet i b = false) : amS bet p (some b) i = some b := by simp [amS, h2]
theorem amo_ok {bet : Nat → Nat → Bool} {p : Nat → Bool} : ∀ {n b : Nat}, amo bet p n = some b → b < n ∧ p b = true
  | n + 1, b, h => by
    rw [amo] at h
    by_cases hp : p n = true
    · cases ho : amo bet p n with
      | none =>
        rw [ho, amS_n hp] at h
        cases h
        exact ⟨by omega, hp⟩
      | some c =>
        rw [ho] at h
        by_cases hb : bet n c = true
        · rw [amS_t hp hb] at h
          cases h
          exact ⟨by omega, hp⟩
        · rw [amS_f (by simpa using hb)] at h
          cases h
          obtain ⟨h1, h2⟩ := amo_ok ho
          exact ⟨by omega, h2⟩
    · rw [amS_p (by simpa using hp)] at h
      obtain ⟨h1, h2⟩ := amo_ok h
      exact ⟨by omega, h2⟩
theorem amo_cg {bet bet' : Nat → Nat → Bool} {p p' : Nat → Bool} : ∀ {n : Nat}, (∀ i, i < n → p i = p' i) → (∀ i j, i < n → j < n → p i = true → p j = true → bet i j = bet' i j) → amo bet p n = amo bet' p' n
  | 0, _, _ => rfl
  | n + 1, h, h2 => by
    rw [amo, amo, amo_cg (bet := bet) (bet' := bet') (p := p) (p' := p') (n := n) (fun i hi => h i (by omega)) (fun i j hi hj => h2 i j (by omega) (by omega))]
    unfold amS
    rw [← h n (by omega)]
    by_cases hp : p n = true
    · rw [if_pos hp, if_pos hp]
      cases ho : amo bet' p' n with
      | none => rfl
      | some b =>
        obtain ⟨h3, h4⟩ := amo_ok ho
        rw [← h b (by omega)] at h4
        show (if bet n b = true then some n else some b) = if bet' n b = true then some n else some b
        rw [h2 n b (by omega) (by omega) hp h4]
    · rw [if_neg hp, if_neg hp]
theorem amo_some {bet : Nat → Nat → Bool} {p : Nat → Bool} : ∀ {n i : Nat}, i < n → p i = true → ∃ b, amo bet p n = some b
  | n + 1, i, h, hp => by
    rw [amo]
    by_cases e : i = n
    · subst e
      cases amo bet p i with
      | none => exact ⟨i, amS_n hp⟩
      | some b =>
        by_cases hb : bet i b = true
        · exact ⟨i, amS_t hp hb⟩
        · exact ⟨b, amS_f (by simpa using hb)⟩
    · obtain ⟨b, hb⟩ := amo_some (bet := bet) (n := n) (by omega) hp
      rw [hb]
      by_cases hq : p n = true
      · by_cases hc : bet n b = true
        · exact ⟨n, amS_t hq hc⟩
        · exact ⟨b, amS_f (by simpa using hc)⟩
      · exact ⟨b, amS_p (by simpa using hq)⟩
/-- what is best, as a number: b0 where there is none -/
def ob (b0 : Int32) : Option Nat → Int32
  | none => b0
  | some b => nI b
def vo (v0 : Int32) (f : Nat → Nat) : Option Nat → Int32
  | none => v0
  | some b => nI (f b)
def ltF (f : Nat → Nat) (i b : Nat) : Bool := decide (f i < f b)
def gtF (f : Nat → Nat) (i b : Nat) : Bool := decide (f b < f i)
/-- a loop that keeps the best's value and the best: fewest first, values below 1000 -/
theorem sh_min {ρ : Type} {body : (Int32 → Int32 → Int32 → Option ρ) → Int32 → Int32 → Int32 → Option ρ} {lo n : Nat} {b0 : Int32} {f : Nat → Nat} {p : Nat → Bool} {ex : Int32 → Option ρ} (hf : ∀ i, i < n → f i < 1000) (hlo : ∀ i, i < lo → p i = false) (hln : lo ≤ n) (hn : n < 1000)
    (hend : ∀ k v b, body k v b (nI n) = ex b) (hno : ∀ k v b i, lo ≤ i → i < n → p i = false → body k v b (nI i) = k v b (nI (i + 1)))
    (hyes : ∀ k v b i, lo ≤ i → i < n → p i = true → body k v b (nI i) = if v ≤ nI (f i) then k v b (nI (i + 1)) else k (nI (f i)) (nI i) (nI (i + 1))) : Lp3 body FU 1000 b0 (nI lo) = ex (ob b0 (amo (ltF f) p n)) := by
  have h0 : ∀ j, j ≤ lo → amo (ltF f) p j = none := by
    intro j
    induction j with
    | zero => intro _; rfl
    | succ j ih => intro hj; rw [amo, ih (by omega), amS_p (hlo j (by omega))]
  refine lp_run3 n (fun i v b s => lo ≤ i ∧ v = vo 1000 f (amo (ltF f) p i) ∧ b = ob b0 (amo (ltF f) p i) ∧ s = nI i) _ ?_ FU lo _ _ _ hln ⟨Nat.le_refl _, by rw [h0 lo (Nat.le_refl _)]; rfl, by rw [h0 lo (Nat.le_refl _)]; rfl, rfl⟩ (by rw [FU_1000]; omega)
  rintro k i v b s hi ⟨hl, rfl, rfl, rfl⟩
  by_cases e : i = n
  · left
    subst e
    exact hend _ _ _
  · right
    have hlt : i < n := by omega
    refine ⟨hlt, ?_⟩
    by_cases hp : p i = true
    · rw [hyes _ _ _ _ hl hlt hp]
      cases ho : amo (ltF f) p i with
      | none =>
        rw [if_neg (show ¬ vo 1000 f none ≤ nI (f i) from nI_ge (b := 1000) (hf i hlt) (by decide))]
        exact ⟨_, _, _, ⟨by omega, by rw [amo, ho, amS_n hp]; rfl, by rw [amo, ho, amS_n hp]; rfl, rfl⟩, rfl⟩
      | some c =>
        obtain ⟨h1, h2⟩ := amo_ok ho
        have hc := hf c (by omega)
        have hi2 := hf i hlt
        by_cases e2 : f c ≤ f i
        · rw [if_pos (show vo 1000 f (some c) ≤ nI (f i) from nI_le e2 (by omega))]
          have hb : ltF f i c = false := decide_eq_false (by omega)
          exact ⟨_, _, _, ⟨by omega, by rw [amo, ho, amS_f hb], by rw [amo, ho, amS_f hb], rfl⟩, rfl⟩
        · rw [if_neg (show ¬ vo 1000 f (some c) ≤ nI (f i) from nI_ge (by omega) (by omega))]
          have hb : ltF f i c = true := decide_eq_true (by omega)
          exact ⟨_, _, _, ⟨by omega, by rw [amo, ho, amS_t hp hb]; rfl, by rw [amo, ho, amS_t hp hb]; rfl, rfl⟩, rfl⟩
    · have hp2 : p i = false := by simpa using hp
      rw [hno _ _ _ _ hl hlt hp2]
      exact ⟨_, _, _, ⟨by omega, by rw [amo, amS_p hp2], by rw [amo, amS_p hp2], rfl⟩, rfl⟩
/-- the same: most first, from -1 -/
theorem sh_max {ρ : Type} {body : (Int32 → Int32 → Int32 → Option ρ) → Int32 → Int32 → Int32 → Option ρ} {n : Nat} {b0 : Int32} {f : Nat → Nat} {p : Nat → Bool} {ex : Int32 → Option ρ} (hf : ∀ i, i < n → f i < 100000) (hn : n < 1000)
    (hend : ∀ k v b, body k v b (nI n) = ex b) (hno : ∀ k v b i, i < n → p i = false → body k v b (nI i) = k v b (nI (i + 1)))
    (hyes : ∀ k v b i, i < n → p i = true → body k v b (nI i) = if nI (f i) ≤ v then k v b (nI (i + 1)) else k (nI (f i)) (nI i) (nI (i + 1))) : Lp3 body FU (-1) b0 0 = ex (ob b0 (amo (gtF f) p n)) := by
  refine lp_run3 n (fun i v b s => v = vo (-1) f (amo (gtF f) p i) ∧ b = ob b0 (amo (gtF f) p i) ∧ s = nI i) _ ?_ FU 0 _ _ _ (Nat.zero_le _) ⟨rfl, rfl, rfl⟩ (by rw [FU_1000]; omega)
  rintro k i v b s hi ⟨rfl, rfl, rfl⟩
  by_cases e : i = n
  · left
    subst e
    exact hend _ _ _
  · right
    have hlt : i < n := by omega
    refine ⟨hlt, ?_⟩
    by_cases hp : p i = true
    · rw [hyes _ _ _ _ hlt hp]
      have hi2 := hf i hlt
      cases ho : amo (gtF f) p i with
      | none =>
        have hm : ¬ nI (f i) ≤ (-1 : Int32) := fun h => nI_pos (n := f i) (by omega) (by
          have h1 := Int32.le_iff_toInt_le.mp h
          rw [nI_toInt (by omega)] at h1
          have h2 : (-1 : Int32).toInt = -1 := by decide
          omega)
        rw [if_neg (show ¬ nI (f i) ≤ vo (-1) f none from hm)]
        exact ⟨_, _, _, ⟨by rw [amo, ho, amS_n hp]; rfl, by rw [amo, ho, amS_n hp]; rfl, rfl⟩, rfl⟩
      | some c =>
        obtain ⟨h1, h2⟩ := amo_ok ho
        have hc := hf c (by omega)
        by_cases e2 : f i ≤ f c
        · rw [if_pos (show nI (f i) ≤ vo (-1) f (some c) from nI_le e2 (by omega))]
          have hb : gtF f i c = false := decide_eq_false (by omega)
          exact ⟨_, _, _, ⟨by rw [amo, ho, amS_f hb], by rw [amo, ho, amS_f hb], rfl⟩, rfl⟩
        · rw [if_neg (show ¬ nI (f i) ≤ vo (-1) f (some c) from nI_ge (by omega) (by omega))]
          have hb : gtF f i c = true := decide_eq_true (by omega)
          exact ⟨_, _, _, ⟨by rw [amo, ho, amS_t hp hb]; rfl, by rw [amo, ho, amS_t hp hb]; rfl, rfl⟩, rfl⟩
    · have hp2 : p i = false := by simpa using hp
      rw [hno _ _ _ _ hlt hp2]
      exact ⟨_, _, _, ⟨by rw [amo, amS_p hp2], by rw [amo, amS_p hp2], rfl⟩, rfl⟩
/-- a loop that keeps the best alone -/
theorem sh_best {ρ : Type} {body : (Int32 → Int32 → Option ρ) → Int32 → Int32 → Option ρ} {n : Nat} {bet : Nat → Nat → Bool} {p : Nat → Bool} {ex : Int32 → Option ρ} (hn : n < 1000)
    (hend : ∀ k o, (∀ b, o = some b → b < n ∧ p b = true) → body k (ob (-9) o) (nI n) = ex (ob (-9) o)) (hstep : ∀ k o i, i < n → (∀ b, o = some b → b < i ∧ p b = true) → body k (ob (-9) o) (nI i) = k (ob (-9) (amS bet p o i)) (nI (i + 1))) : Lp2 body FU (-9) 0 = ex (ob (-9) (amo bet p n)) := by
  refine lp_run2 n (fun i b s => b = ob (-9) (amo bet p i) ∧ s = nI i) _ ?_ FU 0 _ _ (Nat.zero_le _) ⟨rfl, rfl⟩ (by rw [FU_1000]; omega)
  rintro k i b s hi ⟨rfl, rfl⟩
  by_cases e : i = n
  · left
    subst e
    exact hend _ _ (fun b hb => amo_ok hb)
  · right
    have hlt : i < n := by omega
    exact ⟨hlt, _, _, ⟨rfl, rfl⟩, by rw [hstep _ _ _ hlt (fun b hb => amo_ok hb)]; rfl⟩
theorem ob_neg {o : Option Nat} (h : ∀ b, o = some b → b < 2 ^ 31) : (ob (-9) o < 0) ↔ o = none := by
  cases o with
  | none => exact ⟨fun _ => rfl, fun _ => (by decide : (-9 : Int32) < 0)⟩
  | some b => exact ⟨fun q => absurd q (nI_pos (h b rfl)), fun q => by cases q⟩
/-- the first that is so -/
def fst (p : Nat → Bool) : Nat → Option Nat
  | 0 => none
  | n + 1 => match fst p n with
    | some b => some b
    | none => if p n then some n else none
theorem fst_no {p : Nat → Bool} : ∀ {n : Nat}, (∀ i, i < n → p i = false) → fst p n = none
  | 0, _ => rfl
  | n + 1, h => by rw [fst, fst_no (fun i hi => h i (by omega)), h n (by omega)]; rfl
theorem fst_at {p : Nat → Bool} {i : Nat} (hi : ∀ j, j < i → p j = false) (hp : p i = true) : ∀ {n : Nat}, i < n → fst p n = some i
  | n + 1, h => by
    rw [fst]
    by_cases e : i = n
    · subst e
      rw [fst_no hi, hp]; rfl
    · rw [fst_at hi hp (by omega : i < n)]
theorem fst_cg {p q : Nat → Bool} : ∀ {n : Nat}, (∀ i, i < n → p i = q i) → fst p n = fst q n
  | 0, _ => rfl
  | n + 1, h => by rw [fst, fst, fst_cg (fun i hi => h i (by omega)), h n (by omega)]
theorem fst_ok {p : Nat → Bool} : ∀ {n b : Nat}, fst p n = some b → b < n ∧ p b = true ∧ ∀ j, j < b → p j = false
  | n + 1, b, h => by
    rw [fst] at h
    cases ho : fst p n with
    | some c =>
      rw [ho] at h
      cases h
      obtain ⟨h1, h2, h3⟩ := fst_ok ho
      exact ⟨by omega, h2, h3⟩
    | none =>
      rw [ho] at h
      by_cases hp : p n = true
      · rw [if_pos hp] at h
        cases h
        refine ⟨by omega, hp, fun j hj => ?_⟩
        cases hq : p j with
        | false => rfl
        | true =>
          exfalso
          have : ∀ (m : Nat), j < m → fst p m ≠ none := by
            intro m
            induction m with
            | zero => intro h; omega
            | succ m ih =>
              intro hm
              rw [fst]
              by_cases e : j = m
              · subst e
                cases fst p j with
                | some _ => exact fun q => by cases q
                | none => rw [hq]; exact fun q => by cases q
              · cases hz : fst p m with
                | some _ => exact fun q => by cases q
                | none => exact absurd hz (ih (by omega))
          exact this n (by omega) ho
      · rw [if_neg hp] at h
        cases h
