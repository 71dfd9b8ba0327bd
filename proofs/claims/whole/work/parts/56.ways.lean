/-! PURE: ways beside one another: the class -/
theorem way_C {V : Nat → Nat → Nat} {T : OS} (hT : TR V T) (hB : WB V) {w : Nat} (hw : w < V 1 0) : f_X7_at 6 (T.2 9) (nI w) = some (nI (V 9 w)) := by
  have h6 := hB.2.1
  rw [at_in (by omega : w < 6) (by decide), hT.2 9 (by decide) (by decide) w (by show w < 6; omega)]
def shN (V : Nat → Nat → Nat) (a b : Nat) : Nat := pc 8 (V 9 a &&& V 9 b)
theorem shared_C {V : Nat → Nat → Nat} {T : OS} (hT : TR V T) (hB : WB V) {a b : Nat} (ha : a < V 1 0) (hb : b < V 1 0) : f_X3_sharedBy T (nI a) (nI b) = some (nI (shN V a b)) := by
  unfold f_X3_sharedBy
  rw [way_C hT hB ha, Option.bind_some, way_C hT hB hb, Option.bind_some, and_nI, bc_C _ (and8 (WB_th hB ha)), Option.bind_some]
  rfl
/-- of all twos: the best's value and the two -/
def twS (bet : Nat → Nat → Bool) (p : Nat → Nat → Bool) (f : Nat → Nat → Nat) (a : Nat) (o : Option (Nat × Nat)) (b : Nat) : Option (Nat × Nat) := if p a b then (match o with
  | none => some (f a b, 10 * a + b)
  | some q => if bet (f a b) q.1 then some (f a b, 10 * a + b) else some q) else o
def twI (bet : Nat → Nat → Bool) (p : Nat → Nat → Bool) (f : Nat → Nat → Nat) (a : Nat) (o : Option (Nat × Nat)) : Nat → Option (Nat × Nat)
  | 0 => o
  | n + 1 => twS bet p f a (twI bet p f a o n) (a + 1 + n)
def twO (bet : Nat → Nat → Bool) (p : Nat → Nat → Bool) (f : Nat → Nat → Nat) (m : Nat) : Nat → Option (Nat × Nat)
  | 0 => none
  | n + 1 => twI bet p f n (twO bet p f m n) (m - (n + 1))
def tv (v0 : Int32) : Option (Nat × Nat) → Int32
  | none => v0
  | some q => nI q.1
def tw : Option (Nat × Nat) → Int32
  | none => -9
  | some q => nI q.2
theorem twS_le {bet : Nat → Nat → Bool} {p : Nat → Nat → Bool} {f : Nat → Nat → Nat} {a b c : Nat} {o : Option (Nat × Nat)} (hf : f a b ≤ c) (h : ∀ q, o = some q → q.1 ≤ c) : ∀ q, twS bet p f a o b = some q → q.1 ≤ c := by
  intro q hq
  unfold twS at hq
  by_cases hp : p a b = true
  · rw [if_pos hp] at hq
    cases o with
    | none => cases hq; exact hf
    | some r =>
      dsimp only at hq
      by_cases hb : bet (f a b) r.1 = true
      · rw [if_pos hb] at hq; cases hq; exact hf
      · rw [if_neg hb] at hq; cases hq; exact h _ rfl
  · rw [if_neg hp] at hq; exact h _ hq
theorem twI_le {bet : Nat → Nat → Bool} {p : Nat → Nat → Bool} {f : Nat → Nat → Nat} {a c m : Nat} {o : Option (Nat × Nat)} (hf : ∀ b, b < m → f a b ≤ c) (h : ∀ q, o = some q → q.1 ≤ c) : ∀ n, a + 1 + n ≤ m → ∀ q, twI bet p f a o n = some q → q.1 ≤ c
  | 0, _ => h
  | n + 1, hn => twS_le (hf _ (by omega)) (twI_le hf h n (by omega))
theorem twO_le {bet : Nat → Nat → Bool} {p : Nat → Nat → Bool} {f : Nat → Nat → Nat} {c m : Nat} (hf : ∀ a b, a < m → b < m → f a b ≤ c) : ∀ n, n ≤ m → ∀ q, twO bet p f m n = some q → q.1 ≤ c
  | 0, _ => fun q h => by cases h
  | n + 1, hn => twI_le (m := m) (fun b hb => hf n b (by omega) hb) (twO_le hf n (by omega)) _ (by omega)
def ltB (x y : Nat) : Bool := decide (x < y)
def gtB (x y : Nat) : Bool := decide (y < x)
def malN (V : Nat → Nat → Nat) : Option (Nat × Nat) := twO gtB (fun _ _ => true) (shN V) (V 1 0) (V 1 0)
theorem shN_le {V : Nat → Nat → Nat} {a b : Nat} : shN V a b ≤ 8 := pc_le 8 _
theorem mal_C {V : Nat → Nat → Nat} {T : OS} (hT : TR V T) (hB : WB V) : f_X3_mostAlikeTwo T = some (tw (malN V)) := by
  have h6 := hB.2.1
  unfold f_X3_mostAlikeTwo
  refine lp_run3 (V 1 0) (fun i v b s => v = tv (-1) (twO gtB (fun _ _ => true) (shN V) (V 1 0) i) ∧ b = tw (twO gtB (fun _ _ => true) (shN V) (V 1 0) i) ∧ s = nI i) _ ?_ FU 0 _ _ _ (Nat.zero_le _) ⟨rfl, rfl, rfl⟩ (by rw [FU_1000]; omega)
  rintro k a v b s hi ⟨rfl, rfl, rfl⟩
  unfold b_X3_mostAlikeTwo_7
  rw [hT.1 1 (by decide)]
  by_cases e : a = V 1 0
  · left
    subst e
    rw [if_pos (nI_le (Nat.le_refl _) (by omega))]
    rfl
  · have hlt : a < V 1 0 := by omega
    rw [if_neg (nI_ge hlt (by omega))]
    refine Or.inr ⟨hlt, _, _, _, ⟨rfl, rfl, rfl⟩, ?_⟩
    have hle := twO_le (bet := gtB) (p := fun _ _ => true) (f := shN V) (c := 8) (m := V 1 0) (fun _ _ _ _ => shN_le) a (by omega)
    rw [show nI a + (1 : Int32) = nI (a + 1) from nI_1 a]
    refine lp_run3 (V 1 0 - (a + 1)) (fun i v b s => v = tv (-1) (twI gtB (fun _ _ => true) (shN V) a (twO gtB (fun _ _ => true) (shN V) (V 1 0) a) i) ∧ b = tw (twI gtB (fun _ _ => true) (shN V) a (twO gtB (fun _ _ => true) (shN V) (V 1 0) a) i) ∧ s = nI (a + 1 + i)) _ ?_ FU 0 _ _ _ (Nat.zero_le _) ⟨rfl, rfl, rfl⟩ (by rw [FU_1000]; omega)
    rintro k2 i v b s hi2 ⟨rfl, rfl, rfl⟩
    unfold b_X3_mostAlikeTwo_23 j_X3_mostAlikeTwo_67 j_X3_mostAlikeTwo_61
    rw [hT.1 1 (by decide)]
    by_cases e2 : i = V 1 0 - (a + 1)
    · left
      subst e2
      rw [if_pos (nI_le (by omega) (by omega)), show nI a + (1 : Int32) = nI (a + 1) from nI_1 a]
      rfl
    · have hb : a + 1 + i < V 1 0 := by omega
      rw [if_neg (nI_ge hb (by omega)), shared_C hT hB hlt hb, Option.bind_some, show nI (a + 1 + i) + (1 : Int32) = nI (a + 1 + (i + 1)) from nI_1 _]
      refine Or.inr ⟨by omega, ?_⟩
      have hle2 := twI_le (bet := gtB) (p := fun _ _ => true) (f := shN V) (a := a) (c := 8) (m := V 1 0) (fun _ _ => shN_le) hle i (by omega)
      cases ho : twI gtB (fun _ _ => true) (shN V) a (twO gtB (fun _ _ => true) (shN V) (V 1 0) a) i with
      | none =>
        have hm : ∀ n, n ≤ 8 → ¬ nI n ≤ (-1 : Int32) := by decide
        rw [if_neg (show ¬ nI (shN V a (a + 1 + i)) ≤ tv (-1) none from hm _ shN_le)]
        refine ⟨_, _, _, ⟨?_, ?_, rfl⟩, rfl⟩
        · rw [twI, ho]; rfl
        · rw [twI, ho, show (10 : Int32) = nI 10 from rfl, pk_mul, nI_add]; rfl
      | some q =>
        have hq := hle2 q ho
        by_cases e3 : shN V a (a + 1 + i) ≤ q.1
        · have hbt : gtB (shN V a (a + 1 + i)) q.1 = false := decide_eq_false (by omega)
          rw [if_pos (show nI (shN V a (a + 1 + i)) ≤ tv (-1) (some q) from nI_le e3 (by omega))]
          refine ⟨_, _, _, ⟨?_, ?_, rfl⟩, rfl⟩
          · rw [twI, ho]; simp [twS, hbt]
          · rw [twI, ho]; simp [twS, hbt]
        · have hbt : gtB (shN V a (a + 1 + i)) q.1 = true := decide_eq_true (by omega)
          have := shN_le (V := V) (a := a) (b := a + 1 + i)
          rw [if_neg (show ¬ nI (shN V a (a + 1 + i)) ≤ tv (-1) (some q) from nI_ge (by omega) (by omega))]
          refine ⟨_, _, _, ⟨?_, ?_, rfl⟩, rfl⟩
          · rw [twI, ho]; simp [twS, hbt, tv]
          · rw [twI, ho, show (10 : Int32) = nI 10 from rfl, pk_mul, nI_add]; simp [twS, hbt, tw]
def unP (V : Nat → Nat → Nat) (a b : Nat) : Bool := decide (ko V (V 9 a ||| V 9 b) (V 0 0) = ko V (2 ^ V 0 0 - 1) (V 0 0))
def unlN (V : Nat → Nat → Nat) : Option (Nat × Nat) := twO ltB (unP V) (shN V) (V 1 0) (V 1 0)
theorem ko_lt {V : Nat → Nat → Nat} (hB : WB V) {bits : Nat} : ∀ {n : Nat}, n ≤ 8 → ko V bits n < 64
  | 0, _ => by
    rw [ko]; decide
  | n + 1, h => by
    have h1 := ko_lt hB (bits := bits) (n := n) (by omega)
    have h2 := (hB.2.2.2.1 n (by omega)).1
    rw [ko]
    refine Nat.or_lt_two_pow (n := 6) h1 ?_
    split
    · exact Nat.pow_lt_pow_right (by decide) (by omega)
    · decide
theorem kt_C {V : Nat → Nat → Nat} {T : OS} (hT : TR V T) (hB : WB V) {a b : Nat} (ha : a < V 1 0) (hb : b < V 1 0) : f_X3_kindsOfTwo T (nI a) (nI b) = some (nI (ko V (V 9 a ||| V 9 b) (V 0 0))) := by
  unfold f_X3_kindsOfTwo
  rw [way_C hT hB ha, Option.bind_some, way_C hT hB hb, Option.bind_some, or_nI, ko_C hT hB (by have := or8 (WB_th hB ha) (WB_th hB hb); omega), Option.bind_some]
theorem unl_C {V : Nat → Nat → Nat} {T : OS} (hT : TR V T) (hB : WB V) : f_X3_mostUnlikeTwo T = some (tw (unlN V)) := by
  have h6 := hB.2.1
  have h8 := hB.1
  have hp8 := p2_8 hB.1
  unfold f_X3_mostUnlikeTwo
  rw [alls_C hT hB, Option.bind_some, ko_C hT hB (by omega), Option.bind_some]
  have hka := ko_lt hB (bits := 2 ^ V 0 0 - 1) h8
  refine lp_run3 (V 1 0) (fun i v b s => v = tv 1000 (twO ltB (unP V) (shN V) (V 1 0) i) ∧ b = tw (twO ltB (unP V) (shN V) (V 1 0) i) ∧ s = nI i) _ ?_ FU 0 _ _ _ (Nat.zero_le _) ⟨rfl, rfl, rfl⟩ (by rw [FU_1000]; omega)
  rintro k a v b s hi ⟨rfl, rfl, rfl⟩
  unfold b_X3_mostUnlikeTwo_25
  rw [hT.1 1 (by decide)]
  by_cases e : a = V 1 0
  · left
    subst e
    rw [if_pos (nI_le (Nat.le_refl _) (by omega))]
    rfl
  · have hlt : a < V 1 0 := by omega
    rw [if_neg (nI_ge hlt (by omega))]
    refine Or.inr ⟨hlt, _, _, _, ⟨rfl, rfl, rfl⟩, ?_⟩
    have hle := twO_le (bet := ltB) (p := unP V) (f := shN V) (c := 8) (m := V 1 0) (fun _ _ _ _ => shN_le) a (by omega)
    rw [show nI a + (1 : Int32) = nI (a + 1) from nI_1 a]
    refine lp_run3 (V 1 0 - (a + 1)) (fun i v b s => v = tv 1000 (twI ltB (unP V) (shN V) a (twO ltB (unP V) (shN V) (V 1 0) a) i) ∧ b = tw (twI ltB (unP V) (shN V) a (twO ltB (unP V) (shN V) (V 1 0) a) i) ∧ s = nI (a + 1 + i)) _ ?_ FU 0 _ _ _ (Nat.zero_le _) ⟨rfl, rfl, rfl⟩ (by rw [FU_1000]; omega)
    rintro k2 i v b s hi2 ⟨rfl, rfl, rfl⟩
    unfold b_X3_mostUnlikeTwo_43 j_X3_mostUnlikeTwo_101 j_X3_mostUnlikeTwo_95
    rw [hT.1 1 (by decide)]
    by_cases e2 : i = V 1 0 - (a + 1)
    · left
      subst e2
      rw [if_pos (nI_le (by omega) (by omega)), show nI a + (1 : Int32) = nI (a + 1) from nI_1 a]
      rfl
    · have hb : a + 1 + i < V 1 0 := by omega
      rw [if_neg (nI_ge hb (by omega)), shared_C hT hB hlt hb, Option.bind_some, kt_C hT hB hlt hb, Option.bind_some, show nI (a + 1 + i) + (1 : Int32) = nI (a + 1 + (i + 1)) from nI_1 _]
      refine Or.inr ⟨by omega, ?_⟩
      have hle2 := twI_le (bet := ltB) (p := unP V) (f := shN V) (a := a) (c := 8) (m := V 1 0) (fun _ _ => shN_le) hle i (by omega)
      have hs := shN_le (V := V) (a := a) (b := a + 1 + i)
      have hk2 := ko_lt hB (bits := V 9 a ||| V 9 (a + 1 + i)) h8
      have hcode : (10 : Int32) * nI a + nI (a + 1 + i) = nI (10 * a + (a + 1 + i)) := by rw [show (10 : Int32) = nI 10 from rfl, pk_mul, nI_add]
      rw [hcode]
      by_cases hp : unP V a (a + 1 + i) = true
      · have hp2 := of_decide_eq_true hp
        rw [hp2, if_pos rfl]
        cases ho : twI ltB (unP V) (shN V) a (twO ltB (unP V) (shN V) (V 1 0) a) i with
        | none =>
          rw [if_neg (show ¬ tv 1000 none ≤ nI (shN V a (a + 1 + i)) from nI_ge (b := 1000) (by omega) (by decide))]
          refine ⟨_, _, _, ⟨?_, ?_, rfl⟩, rfl⟩
          · rw [twI, ho]; simp [twS, hp, tv]
          · rw [twI, ho]; simp [twS, hp, tw]
        | some q =>
          have hq := hle2 q ho
          by_cases e3 : q.1 ≤ shN V a (a + 1 + i)
          · have hbt : ltB (shN V a (a + 1 + i)) q.1 = false := decide_eq_false (by omega)
            rw [if_pos (show tv 1000 (some q) ≤ nI (shN V a (a + 1 + i)) from nI_le e3 (by omega))]
            refine ⟨_, _, _, ⟨?_, ?_, rfl⟩, rfl⟩
            · rw [twI, ho]; simp [twS, hbt]
            · rw [twI, ho]; simp [twS, hbt]
          · have hbt : ltB (shN V a (a + 1 + i)) q.1 = true := decide_eq_true (by omega)
            rw [if_neg (show ¬ tv 1000 (some q) ≤ nI (shN V a (a + 1 + i)) from nI_ge (by omega) (by omega))]
            refine ⟨_, _, _, ⟨?_, ?_, rfl⟩, rfl⟩
            · rw [twI, ho]; simp [twS, hbt, hp, tv]
            · rw [twI, ho]; simp [twS, hbt, hp, tw]
      · have hp1 : unP V a (a + 1 + i) = false := by simpa using hp
        have hp2 := of_decide_eq_false hp1
        rw [if_neg (fun q => hp2 ((nI_eq (by omega) (by omega)).mp q))]
        have ho : twI ltB (unP V) (shN V) a (twO ltB (unP V) (shN V) (V 1 0) a) (i + 1) = twI ltB (unP V) (shN V) a (twO ltB (unP V) (shN V) (V 1 0) a) i := by rw [twI]; simp [twS, hp1]
        refine ⟨_, _, _, ⟨rfl, rfl, rfl⟩, ?_⟩
        rw [ho]
        by_cases e3 : tv 1000 (twI ltB (unP V) (shN V) a (twO ltB (unP V) (shN V) (V 1 0) a) i) ≤ nI (shN V a (a + 1 + i))
        · rw [if_pos e3]
        · rw [if_neg e3]
/-- the hardest and the least hard of a set of ways -/
def mxN (f : Nat → Nat) (set : Nat) : Nat → Nat
  | 0 => 0
  | n + 1 => if set.testBit n then max (mxN f set n) (f n) else mxN f set n
def miN (f : Nat → Nat) (set : Nat) : Nat → Nat
  | 0 => 1000
  | n + 1 => if set.testBit n then min (miN f set n) (f n) else miN f set n
def apN (V : Nat → Nat → Nat) (set h : Nat) : Nat := mxN (fun w => ho V (V 9 w) h) set (V 1 0) - miN (fun w => ho V (V 9 w) h) set (V 1 0)
theorem ho_le {V : Nat → Nat → Nat} (hB : WB V) {bits h : Nat} (hh : h < 24) : ho V bits h ≤ 176 := by
  have h1 := sb_le (g := fun s => hd V s h) (bits := bits) (c := 22) (n := V 0 0) (fun i hi => hd_le hB (by have := hB.1; omega) hh)
  have h2 := hB.1
  unfold ho
  omega
theorem mxN_le {f : Nat → Nat} {set c : Nat} : ∀ {n : Nat}, (∀ i, i < n → f i ≤ c) → mxN f set n ≤ c
  | 0, _ => Nat.zero_le _
  | n + 1, h => by
    have h1 := mxN_le (f := f) (set := set) (c := c) (n := n) (fun i hi => h i (by omega))
    have h2 := h n (by omega)
    rw [mxN]
    split <;> omega
theorem miN_le {f : Nat → Nat} {set : Nat} : ∀ {n : Nat}, miN f set n ≤ 1000
  | 0 => Nat.le_refl _
  | n + 1 => by
    have h1 := miN_le (f := f) (set := set) (n := n)
    rw [miN]
    split <;> omega
theorem max_nI {a b : Nat} (ha : a < 2 ^ 31) (hb : b < 2 ^ 31) : maxI (nI a) (nI b) = nI (max a b) := by
  unfold maxI
  by_cases h : a < b
  · rw [if_pos (nI_lt h hb), Nat.max_eq_right (by omega)]
  · rw [if_neg (nI_nlt (by omega) ha), Nat.max_eq_left (by omega)]
theorem min_nI {a b : Nat} (ha : a < 2 ^ 31) (hb : b < 2 ^ 31) : minI (nI a) (nI b) = nI (min a b) := by
  unfold minI
  by_cases h : b < a
  · rw [if_pos (nI_lt h ha), Nat.min_eq_right (by omega)]
  · rw [if_neg (nI_nlt (by omega) hb), Nat.min_eq_left (by omega)]
theorem max0_sub {a b : Nat} (ha : a < 2 ^ 30) (hb : b < 2 ^ 30) : maxI 0 (nI a - nI b) = nI (a - b) := by
  unfold maxI
  by_cases h : b < a
  · rw [pk_sub (by omega), if_pos (show (0 : Int32) < nI (a - b) from nI_lt (a := 0) (by omega) (by omega))]
  · have h2 : a - b = 0 := by omega
    rw [h2]
    by_cases e : a = b
    · subst e
      rw [pk_sub (Nat.le_refl _), Nat.sub_self]
      rfl
    · have h3 := pk_sneg hb (by omega : a < b)
      rw [if_neg (fun q => Int32.lt_irrefl (Int32.lt_trans q h3))]
      rfl
theorem apart_C {V : Nat → Nat → Nat} {T : OS} (hT : TR V T) (hB : WB V) {set h : Nat} (hs : set < 2 ^ 31) (hh : h < 24) : f_X3_apart T (nI set) (nI h) = some (nI (apN V set h)) := by
  have h6 := hB.2.1
  have hmx : ∀ n, mxN (fun w => ho V (V 9 w) h) set n ≤ 176 := fun n => mxN_le (fun i _ => ho_le hB hh)
  unfold f_X3_apart
  refine lp_run3 (V 1 0) (fun i a b s => a = nI (miN (fun w => ho V (V 9 w) h) set i) ∧ b = nI (mxN (fun w => ho V (V 9 w) h) set i) ∧ s = nI i) _ ?_ FU 0 _ _ _ (Nat.zero_le _) ⟨rfl, rfl, rfl⟩ (by rw [FU_1000]; omega)
  rintro k i a b s hi ⟨rfl, rfl, rfl⟩
  have h1 := hmx i
  have h2 := miN_le (f := fun w => ho V (V 9 w) h) (set := set) (n := i)
  unfold b_X3_apart_10 j_X3_apart_69
  rw [hT.1 1 (by decide)]
  by_cases e : i = V 1 0
  · left
    subst e
    rw [if_pos (nI_le (Nat.le_refl _) (by omega)), max0_sub (by omega) (by omega)]
    rfl
  · have hlt : i < V 1 0 := by omega
    have h3 := ho_le hB (bits := V 9 i) hh
    rw [if_neg (nI_ge hlt (by omega)), has_C hs (by omega), Option.bind_some, if_bI, way_C hT hB hlt, Option.bind_some, ho_C hT hB (by have := WB_th hB hlt; omega) hh, Option.bind_some, min_nI (by omega) (by omega), max_nI (by omega) (by omega), show nI i + (1 : Int32) = nI (i + 1) from nI_1 i]
    refine Or.inr ⟨hlt, ?_⟩
    by_cases e2 : set.testBit i = true
    · rw [if_pos e2]
      exact ⟨_, _, _, ⟨by rw [miN, if_pos e2], by rw [mxN, if_pos e2], rfl⟩, rfl⟩
    · rw [if_neg e2]
      exact ⟨_, _, _, ⟨by rw [miN, if_neg e2], by rw [mxN, if_neg e2], rfl⟩, rfl⟩
theorem apN_le {V : Nat → Nat → Nat} (hB : WB V) {set h : Nat} (hh : h < 24) : apN V set h ≤ 176 := by
  have := mxN_le (f := fun w => ho V (V 9 w) h) (set := set) (c := 176) (n := V 1 0) (fun i _ => ho_le hB hh)
  unfold apN
  omega
def fairN (V : Nat → Nat → Nat) (h k : Nat) : Option Nat := amo (ltF (fun set => apN V set h)) (fun set => decide (1 ≤ set) && decide (pc 8 set = k)) (2 ^ V 1 0)
theorem fair_C {V : Nat → Nat → Nat} {T : OS} (hT : TR V T) (hB : WB V) {h k : Nat} (hh : h < 24) (hk : k ≤ 6) : f_X3_fairestSet T (nI h) (nI k) = some (ob (-9) (fairN V h k)) := by
  have h6 := hB.2.1
  have hp6 : 2 ^ V 1 0 ≤ 2 ^ 6 := Nat.pow_le_pow_right (by decide) h6
  have hp0 := Nat.two_pow_pos (V 1 0)
  unfold f_X3_fairestSet
  refine sh_min (lo := 1) (f := fun set => apN V set h) (p := fun set => decide (1 ≤ set) && decide (pc 8 set = k)) (n := 2 ^ V 1 0) (ex := some) (fun i hi => by have := apN_le hB (set := i) hh; omega) (fun i hi => by simp; omega) (by omega) (by omega) ?_ ?_ ?_
  · intro kk v b
    unfold b_X3_fairestSet_11
    rw [allw_C hT hB, Option.bind_some, if_pos (nI_lt (by omega) (by omega))]
  · intro kk v b i hl hi hp
    have hp2 : ¬ pc 8 i = k := by simpa [hl] using hp
    have hpc := pc_le 8 i
    unfold b_X3_fairestSet_11 j_X3_fairestSet_54
    rw [allw_C hT hB, Option.bind_some, if_neg (nI_nlt (by omega) (by omega)), bc_C i (by omega), Option.bind_some, if_neg (fun q => hp2 ((nI_eq (by omega) (by omega)).mp q)), show nI i + (1 : Int32) = nI (i + 1) from nI_1 i]
  · intro kk v b i hl hi hp
    have hp2 : pc 8 i = k := by simpa [hl] using hp
    unfold b_X3_fairestSet_11 j_X3_fairestSet_54
    rw [allw_C hT hB, Option.bind_some, if_neg (nI_nlt (by omega) (by omega)), bc_C i (by omega), Option.bind_some, hp2, if_pos rfl, apart_C hT hB (by omega) hh, Option.bind_some, show nI i + (1 : Int32) = nI (i + 1) from nI_1 i]
/-- the streets of the first n ways -/
def orN (V : Nat → Nat → Nat) : Nat → Nat
  | 0 => 0
  | n + 1 => orN V n ||| V 9 n
theorem foll_C {V : Nat → Nat → Nat} {T : OS} (hT : TR V T) (hB : WB V) {n : Nat} (hn : n < 900) : f_X3_followed T (nI n) = some (nI (orN V (min n (V 1 0)))) := by
  have h6 := hB.2.1
  unfold f_X3_followed
  refine lp_run2 (min n (V 1 0)) (fun i a s => a = nI (orN V i) ∧ s = nI i) _ ?_ FU 0 _ _ (Nat.zero_le _) ⟨rfl, rfl⟩ (by rw [FU_1000]; omega)
  rintro k i a s hi ⟨rfl, rfl⟩
  unfold b_X3_followed_4
  rw [hT.1 1 (by decide)]
  by_cases e : V 1 0 ≤ i
  · left
    rw [if_pos (nI_le e (by omega)), show i = min n (V 1 0) by omega]
  · rw [if_neg (nI_ge (by omega) (by omega))]
    by_cases e2 : n ≤ i
    · left
      rw [if_pos (nI_le e2 (by omega)), show i = min n (V 1 0) by omega]
    · rw [if_neg (nI_ge (by omega) (by omega)), way_C hT hB (by omega), Option.bind_some, or_nI]
      exact Or.inr ⟨by omega, _, _, ⟨rfl, nI_1 i⟩, rfl⟩
theorem orN_lt {V : Nat → Nat → Nat} (hB : WB V) : ∀ {n : Nat}, n ≤ V 1 0 → orN V n < 256
  | 0, _ => by rw [orN]; decide
  | n + 1, h => or8 (orN_lt hB (by omega)) (WB_th hB (by omega))
def ttN (V : Nat → Nat → Nat) : Option Nat := fst (fun n => decide (orN V n = orN V (V 1 0))) (V 1 0 + 1)
theorem ttf_C {V : Nat → Nat → Nat} {T : OS} (hT : TR V T) (hB : WB V) : f_X3_testsToFollow T = some (ob 0 (ttN V)) := by
  have h6 := hB.2.1
  have ha := orN_lt hB (Nat.le_refl (V 1 0))
  unfold f_X3_testsToFollow
  rw [hT.1 1 (by decide), foll_C hT hB (by omega), Option.bind_some, Nat.min_self]
  refine lp_run1 (V 1 0) (fun i s => s = nI i ∧ ∀ j, j < i → decide (orN V j = orN V (V 1 0)) = false) _ ?_ FU 0 _ (Nat.zero_le _) ⟨rfl, fun j hj => by omega⟩ (by rw [FU_1000]; omega)
  rintro k i s hi ⟨rfl, hno⟩
  unfold b_X3_testsToFollow_14
  rw [hT.1 1 (by decide)]
  by_cases e : i = V 1 0
  · left
    subst e
    rw [if_pos (nI_le (Nat.le_refl _) (by omega))]
    unfold ttN
    rw [fst_at hno (decide_eq_true rfl) (by omega)]
    rfl
  · have hlt : i < V 1 0 := by omega
    have hb := orN_lt hB (n := i) (by omega)
    rw [if_neg (nI_ge hlt (by omega)), foll_C hT hB (by omega), Option.bind_some, Nat.min_eq_left (by omega)]
    by_cases e2 : orN V i = orN V (V 1 0)
    · left
      rw [e2, if_pos rfl]
      unfold ttN
      rw [fst_at hno (decide_eq_true e2) (by omega)]
      rfl
    · rw [if_neg (fun q => e2 ((nI_eq (by omega) (by omega)).mp q))]
      refine Or.inr ⟨hlt, _, ⟨nI_1 i, fun j hj => ?_⟩, rfl⟩
      by_cases ej : j = i
      · subst ej; exact decide_eq_false e2
      · exact hno j (by omega)
def adN (a b : Nat) : Nat := if a ≤ b then b - a else a - b
theorem abs_nI {a b : Nat} (ha : a < 2 ^ 30) (hb : b < 2 ^ 30) : absI (nI a - nI b) = nI (adN a b) := by
  unfold absI adN
  by_cases h : b ≤ a
  · rw [pk_sub h, if_pos (nI_pos' (by omega))]
    by_cases e : a ≤ b
    · rw [if_pos e, show a - b = b - a by omega]
    · rw [if_neg e]
  · have h3 := pk_sneg hb (by omega : a < b)
    rw [if_neg (fun q => Int32.lt_irrefl (Int32.lt_of_lt_of_le h3 q)), if_pos (by omega), ← pk_sub (by omega : a ≤ b), Int32.zero_sub, Int32.neg_sub]
theorem kin_iff : ∀ x, x < 64 → ∀ k, k < 64 → ((x &&& k = k) ↔ nd k x = 0) := by decide +kernel
def madeP (V : Nat → Nat → Nat) (kinds m set : Nat) : Bool := decide (1 ≤ set) && (decide (nd kinds (ko V set (V 0 0)) = 0) && decide (mo V set ≤ m))
def madeN (V : Nat → Nat → Nat) (kinds m v : Nat) : Option Nat := amo (ltF (fun set => adN (ho V set (V 3 0)) v)) (madeP V kinds m) (2 ^ V 0 0)
theorem mo_le {V : Nat → Nat → Nat} (hB : WB V) {bits : Nat} : mo V bits ≤ 72 := by
  have h1 := sb_le (g := V 8) (bits := bits) (c := 9) (n := V 0 0) (fun i hi => (hB.2.2.2.1 i (by have := hB.1; omega)).2.2)
  have h2 := hB.1
  unfold mo
  omega
theorem adN_le {a b : Nat} : adN a b ≤ max a b := by
  unfold adN
  split <;> omega
theorem made_C {V : Nat → Nat → Nat} {T : OS} (hT : TR V T) (hB : WB V) (hL : WL V) {kinds m v : Nat} (hk : kinds < 64) (hm : m ≤ 72) (hv : v ≤ 99) : f_X3_nearestSet T (nI kinds) (nI m) (nI v) = some (ob (-9) (madeN V kinds m v)) := by
  have h8 := p2_8 hB.1
  have hp0 := Nat.two_pow_pos (V 0 0)
  have hh := hL.1
  unfold f_X3_nearestSet
  refine sh_min (lo := 1) (f := fun set => adN (ho V set (V 3 0)) v) (p := madeP V kinds m) (n := 2 ^ V 0 0) (ex := some) (fun i hi => by have := ho_le hB (bits := i) hh; have := adN_le (a := ho V i (V 3 0)) (b := v); omega) (fun i hi => by simp [madeP]; omega) (by omega) (by omega) ?_ ?_ ?_
  · intro kk u b
    unfold b_X3_nearestSet_12
    rw [alls_C hT hB, Option.bind_some, if_pos (nI_lt (by omega) (by omega))]
  · intro kk u b i hl hi hp
    have hkk := ko_lt hB (bits := i) hB.1
    have hmm := mo_le hB (bits := i)
    have hoo := ho_le hB (bits := i) hh
    unfold b_X3_nearestSet_12 j_X3_nearestSet_90
    rw [alls_C hT hB, Option.bind_some, if_neg (nI_nlt (by omega) (by omega)), ko_C hT hB (by omega), Option.bind_some, mo_C hT hB (by omega), Option.bind_some, hT.1 3 (by decide), ho_C hT hB (by omega) hh, Option.bind_some, and_nI, abs_nI (by omega) (by omega), show nI i + (1 : Int32) = nI (i + 1) from nI_1 i]
    by_cases e : ko V i (V 0 0) &&& kinds = kinds
    · rw [e, if_pos rfl]
      have e2 := (kin_iff _ hkk _ hk).mp e
      have hp2 : ¬ mo V i ≤ m := by
        intro q
        rw [madeP, decide_eq_true hl, decide_eq_true e2, decide_eq_true q] at hp
        exact absurd hp (by decide)
      rw [if_pos (nI_lt (by omega) (by omega))]
    · rw [if_neg (fun q => e ((nI_eq (Nat.lt_of_le_of_lt Nat.and_le_left (by omega)) (by omega)).mp q))]
  · intro kk u b i hl hi hp
    have hkk := ko_lt hB (bits := i) hB.1
    have hmm := mo_le hB (bits := i)
    have hoo := ho_le hB (bits := i) hh
    unfold madeP at hp
    rw [Bool.and_eq_true, Bool.and_eq_true] at hp
    have e := (kin_iff _ hkk _ hk).mpr (of_decide_eq_true hp.2.1)
    have e2 := of_decide_eq_true hp.2.2
    unfold b_X3_nearestSet_12 j_X3_nearestSet_90
    rw [alls_C hT hB, Option.bind_some, if_neg (nI_nlt (by omega) (by omega)), ko_C hT hB (by omega), Option.bind_some, mo_C hT hB (by omega), Option.bind_some, hT.1 3 (by decide), ho_C hT hB (by omega) hh, Option.bind_some, and_nI, abs_nI (by omega) (by omega), show nI i + (1 : Int32) = nI (i + 1) from nI_1 i, e, if_pos rfl, if_neg (nI_nlt e2 (by omega))]
def wtN (V : Nat → Nat → Nat) (s : Nat) : Nat := cnB (fun w => (V 9 w).testBit s) (V 1 0)
theorem thr_C {V : Nat → Nat → Nat} {T : OS} (hT : TR V T) (hB : WB V) {s : Nat} (hs : s < 31) : f_X3_waysThrough T (nI s) = some (nI (wtN V s)) := by
  have h6 := hB.2.1
  unfold f_X3_waysThrough
  refine lp_run2 (V 1 0) (fun i a t => a = nI (cnB (fun w => (V 9 w).testBit s) i) ∧ t = nI i) _ ?_ FU 0 _ _ (Nat.zero_le _) ⟨rfl, rfl⟩ (by rw [FU_1000]; omega)
  rintro k i a t hi ⟨rfl, rfl⟩
  unfold b_X3_waysThrough_4 j_X3_waysThrough_40
  rw [hT.1 1 (by decide)]
  by_cases e : i = V 1 0
  · left
    subst e
    rw [if_pos (nI_le (Nat.le_refl _) (by omega))]
    rfl
  · have hlt : i < V 1 0 := by omega
    rw [if_neg (nI_ge hlt (by omega)), if_neg (nI_pos (by omega)), way_C hT hB hlt, Option.bind_some, has_C (by have := WB_th hB hlt; omega) hs, Option.bind_some, if_bI, show nI i + (1 : Int32) = nI (i + 1) from nI_1 i]
    refine Or.inr ⟨hlt, ?_⟩
    by_cases e2 : (V 9 i).testBit s = true
    · rw [if_pos e2]
      exact ⟨_, _, ⟨by rw [cnB, if_pos e2]; exact nI_1 _, rfl⟩, rfl⟩
    · rw [if_neg e2]
      exact ⟨_, _, ⟨by rw [cnB, if_neg e2, Nat.add_zero], rfl⟩, rfl⟩
theorem thr9_C {V : Nat → Nat → Nat} {T : OS} (hT : TR V T) (hB : WB V) : f_X3_waysThrough T (-9) = some 0 := by
  have h6 := hB.2.1
  unfold f_X3_waysThrough
  refine lp_run2 (V 1 0) (fun i a t => a = 0 ∧ t = nI i) _ ?_ FU 0 _ _ (Nat.zero_le _) ⟨rfl, rfl⟩ (by rw [FU_1000]; omega)
  rintro k i a t hi ⟨rfl, rfl⟩
  unfold b_X3_waysThrough_4 j_X3_waysThrough_40
  rw [hT.1 1 (by decide)]
  by_cases e : i = V 1 0
  · left
    subst e
    rw [if_pos (nI_le (Nat.le_refl _) (by omega))]
  · have hlt : i < V 1 0 := by omega
    rw [if_neg (nI_ge hlt (by omega)), if_pos (by decide), show nI i + (1 : Int32) = nI (i + 1) from nI_1 i]
    exact Or.inr ⟨hlt, _, _, ⟨rfl, rfl⟩, rfl⟩
def crN (V : Nat → Nat → Nat) : Option Nat := amo (gtF (wtN V)) (fun _ => true) (V 0 0)
theorem wtN_le {V : Nat → Nat → Nat} (hB : WB V) {s : Nat} : wtN V s ≤ 6 := Nat.le_trans (cnB_le _) hB.2.1
theorem crow_C {V : Nat → Nat → Nat} {T : OS} (hT : TR V T) (hB : WB V) : f_X3_mostCrowded T = some (ob (-9) (crN V)) := by
  have h8 := hB.1
  unfold f_X3_mostCrowded
  refine sh_max (f := wtN V) (p := fun _ => true) (n := V 0 0) (ex := some) (fun i hi => by have := wtN_le hB (s := i); omega) (by omega) ?_ (fun _ _ _ _ _ hp => absurd hp (by decide)) ?_
  · intro k v b
    unfold b_X3_mostCrowded_7
    rw [hT.1 0 (by decide), if_pos (nI_le (Nat.le_refl _) (by omega))]
  · intro k v b i hi hp
    unfold b_X3_mostCrowded_7 j_X3_mostCrowded_36
    rw [hT.1 0 (by decide), if_neg (nI_ge hi (by omega)), thr_C hT hB (by omega), Option.bind_some, show nI i + (1 : Int32) = nI (i + 1) from nI_1 i]
def hhN (V : Nat → Nat → Nat) (w : Nat) : Option Nat := amo (gtF (fun h => ho V (V 9 w) h)) (fun _ => true) 24
theorem hard24_C {V : Nat → Nat → Nat} {T : OS} (hT : TR V T) (hB : WB V) {w : Nat} (hw : w < V 1 0) : f_X3_hardestHour T (nI w) = some (ob 0 (hhN V w)) := by
  have hth := WB_th hB hw
  unfold f_X3_hardestHour
  rw [way_C hT hB hw, Option.bind_some]
  refine sh_max (f := fun h => ho V (V 9 w) h) (p := fun _ => true) (n := 24) (ex := some) (fun i hi => by have := ho_le hB (bits := V 9 w) hi; omega) (by decide) ?_ (fun _ _ _ _ _ hp => absurd hp (by decide)) ?_
  · intro k v b
    unfold b_X3_hardestHour_20
    rw [if_pos (show (24 : Int32) ≤ nI 24 by decide)]
  · intro k v b i hi hp
    unfold b_X3_hardestHour_20 j_X3_hardestHour_52
    rw [if_neg (show ¬ (24 : Int32) ≤ nI i from nI_ge (b := 24) hi (by decide)), ho_C hT hB (by omega) hi, Option.bind_some, show nI i + (1 : Int32) = nI (i + 1) from nI_1 i]
def loN (V : Nat → Nat → Nat) : Option Nat := amo (gtF (fun w => mo V (V 9 w))) (fun _ => true) (V 1 0)
theorem long_C {V : Nat → Nat → Nat} {T : OS} (hT : TR V T) (hB : WB V) : f_X3_longestWay T = some (ob (-9) (loN V)) := by
  have h6 := hB.2.1
  unfold f_X3_longestWay
  refine sh_max (f := fun w => mo V (V 9 w)) (p := fun _ => true) (n := V 1 0) (ex := some) (fun i hi => by have := mo_le hB (bits := V 9 i); omega) (by omega) ?_ (fun _ _ _ _ _ hp => absurd hp (by decide)) ?_
  · intro k v b
    unfold b_X3_longestWay_7
    rw [hT.1 1 (by decide), if_pos (nI_le (Nat.le_refl _) (by omega))]
  · intro k v b i hi hp
    unfold b_X3_longestWay_7 j_X3_longestWay_49
    rw [hT.1 1 (by decide), if_neg (nI_ge hi (by omega)), way_C hT hB hi, Option.bind_some, mo_C hT hB (by have := WB_th hB hi; omega), Option.bind_some, show nI i + (1 : Int32) = nI (i + 1) from nI_1 i]
