/-! PURE: the reference's questions: two ways, fair sets -/
theorem alike_M {V : Nat → Nat → Nat} {S : OS} (hM : MR V S) (hB : WB V) {α : Type} {a b : Nat} (ha : a < V 1 0) (hb : b < V 1 0) (o : Int32 → Option α) : (if inb (nI a) 6 = true then if inb (nI b) 6 = true then (f_X8_bits ((S.2 4 (nI a).toNatClampNeg) &&& (S.2 4 (nI b).toNatClampNeg))).bind o else none else none) = o (nI (shN V a b)) := by
  rw [if_pos (ibw hB ha), if_pos (ibw hB hb), thM hM hB ha, thM hM hB hb, and_nI, bc_M _ (and8 (WB_th hB ha)), Option.bind_some]
  rfl
theorem mal_M {V : Nat → Nat → Nat} {S : OS} (hM : MR V S) (hB : WB V) : f_X8_mostAlike S = some (tw (malN V)) := by
  have h6 := hB.2.1
  unfold f_X8_mostAlike
  refine lp_run3 (V 1 0) (fun i b v s => v = tv (-9) (twO gtB (fun _ _ => true) (shN V) (V 1 0) i) ∧ b = tw (twO gtB (fun _ _ => true) (shN V) (V 1 0) i) ∧ s = nI i) _ ?_ FU 0 _ _ _ (Nat.zero_le _) ⟨rfl, rfl, rfl⟩ (by rw [FU_1000]; omega)
  rintro k a b v s hi ⟨rfl, rfl, rfl⟩
  unfold b_X8_mostAlike_8
  rw [hM.1 1 (by decide)]
  by_cases e : a = V 1 0
  · left
    subst e
    rw [if_pos (nI_le (Nat.le_refl _) (by omega))]
    rfl
  · have hlt : a < V 1 0 := by omega
    rw [if_neg (nI_ge hlt (by omega))]
    refine Or.inr ⟨hlt, _, _, _, ⟨rfl, rfl, rfl⟩, ?_⟩
    have hle := twO_le (bet := gtB) (p := fun _ _ => true) (f := shN V) (c := 8) (m := V 1 0) (fun _ _ _ _ => shN_le) a (by omega)
    rw [show nI a + (1 : Int32) = nI (a + 1) from nI_1 a]
    refine lp_run3 (V 1 0 - (a + 1)) (fun i b v s => v = tv (-9) (twI gtB (fun _ _ => true) (shN V) a (twO gtB (fun _ _ => true) (shN V) (V 1 0) a) i) ∧ b = tw (twI gtB (fun _ _ => true) (shN V) a (twO gtB (fun _ _ => true) (shN V) (V 1 0) a) i) ∧ s = nI (a + 1 + i)) _ ?_ FU 0 _ _ _ (Nat.zero_le _) ⟨rfl, rfl, rfl⟩ (by rw [FU_1000]; omega)
    rintro k2 i b v s hi2 ⟨rfl, rfl, rfl⟩
    unfold b_X8_mostAlike_21 j_X8_mostAlike_86 j_X8_mostAlike_80
    rw [hM.1 1 (by decide)]
    by_cases e2 : i = V 1 0 - (a + 1)
    · left
      subst e2
      rw [if_pos (nI_le (by omega) (by omega)), show nI a + (1 : Int32) = nI (a + 1) from nI_1 a]
      rfl
    · have hb : a + 1 + i < V 1 0 := by omega
      rw [if_neg (nI_ge hb (by omega)), alike_M hM hB hlt hb, alike_M hM hB hlt hb, show nI (a + 1 + i) + (1 : Int32) = nI (a + 1 + (i + 1)) from nI_1 _]
      refine Or.inr ⟨by omega, ?_⟩
      have hle2 := twI_le (bet := gtB) (p := fun _ _ => true) (f := shN V) (a := a) (c := 8) (m := V 1 0) (fun _ _ => shN_le) hle i (by omega)
      cases ho : twI gtB (fun _ _ => true) (shN V) a (twO gtB (fun _ _ => true) (shN V) (V 1 0) a) i with
      | none =>
        have hm : ∀ n, n ≤ 8 → (-9 : Int32) < nI n := by decide
        rw [if_pos (show tv (-9) none < nI (shN V a (a + 1 + i)) from hm _ shN_le)]
        refine ⟨_, _, _, ⟨?_, ?_, rfl⟩, rfl⟩
        · rw [twI, ho]; rfl
        · rw [twI, ho, show (10 : Int32) = nI 10 from rfl, pk_mul, nI_add]; rfl
      | some q =>
        have hq := hle2 q ho
        have hs8 := shN_le (V := V) (a := a) (b := a + 1 + i)
        by_cases e3 : shN V a (a + 1 + i) ≤ q.1
        · have hbt : gtB (shN V a (a + 1 + i)) q.1 = false := decide_eq_false (by omega)
          rw [if_neg (show ¬ tv (-9) (some q) < nI (shN V a (a + 1 + i)) from nI_nlt e3 (by omega))]
          refine ⟨_, _, _, ⟨?_, ?_, rfl⟩, rfl⟩
          · rw [twI, ho]; simp [twS, hbt]
          · rw [twI, ho]; simp [twS, hbt]
        · have hbt : gtB (shN V a (a + 1 + i)) q.1 = true := decide_eq_true (by omega)
          rw [if_pos (show tv (-9) (some q) < nI (shN V a (a + 1 + i)) from nI_lt (by omega) (by omega))]
          refine ⟨_, _, _, ⟨?_, ?_, rfl⟩, rfl⟩
          · rw [twI, ho]; simp [twS, hbt, tv]
          · rw [twI, ho, show (10 : Int32) = nI 10 from rfl, pk_mul, nI_add]; simp [twS, hbt, tw]
theorem unl_M {V : Nat → Nat → Nat} {S : OS} (hM : MR V S) (hB : WB V) : f_X8_unlike S = some (tw (unlN V)) := by
  have h6 := hB.2.1
  have h8 := hB.1
  have hp8 := p2_8 hB.1
  have hX := MR_MB hM
  have hka := ko_lt hB (bits := 2 ^ V 0 0 - 1) h8
  unfold f_X8_unlike
  rw [hM.1 0 (by decide), sh1 _ (by omega), show nI (2 ^ V 0 0) - (1 : Int32) = nI (2 ^ V 0 0 - 1) from pk_sub (a := 2 ^ V 0 0) (b := 1) (Nat.two_pow_pos _), ko_M hX hB (by omega), Option.bind_some]
  refine lp_run3 (V 1 0) (fun i b v s => v = tv 9 (twO ltB (unP V) (shN V) (V 1 0) i) ∧ b = tw (twO ltB (unP V) (shN V) (V 1 0) i) ∧ s = nI i) _ ?_ FU 0 _ _ _ (Nat.zero_le _) ⟨rfl, rfl, rfl⟩ (by rw [FU_1000]; omega)
  rintro k a b v s hi ⟨rfl, rfl, rfl⟩
  unfold b_X8_unlike_22
  rw [hM.1 1 (by decide)]
  by_cases e : a = V 1 0
  · left
    subst e
    rw [if_pos (nI_le (Nat.le_refl _) (by omega))]
    rfl
  · have hlt : a < V 1 0 := by omega
    rw [if_neg (nI_ge hlt (by omega))]
    refine Or.inr ⟨hlt, _, _, _, ⟨rfl, rfl, rfl⟩, ?_⟩
    have hle := twO_le (bet := ltB) (p := unP V) (f := shN V) (c := 8) (m := V 1 0) (fun _ _ _ _ => shN_le) a (by omega)
    rw [show nI a + (1 : Int32) = nI (a + 1) from nI_1 a]
    refine lp_run3 (V 1 0 - (a + 1)) (fun i b v s => v = tv 9 (twI ltB (unP V) (shN V) a (twO ltB (unP V) (shN V) (V 1 0) a) i) ∧ b = tw (twI ltB (unP V) (shN V) a (twO ltB (unP V) (shN V) (V 1 0) a) i) ∧ s = nI (a + 1 + i)) _ ?_ FU 0 _ _ _ (Nat.zero_le _) ⟨rfl, rfl, rfl⟩ (by rw [FU_1000]; omega)
    rintro k2 i b v s hi2 ⟨rfl, rfl, rfl⟩
    unfold b_X8_unlike_37 j_X8_unlike_116 j_X8_unlike_110
    rw [hM.1 1 (by decide)]
    by_cases e2 : i = V 1 0 - (a + 1)
    · left
      subst e2
      rw [if_pos (nI_le (by omega) (by omega)), show nI a + (1 : Int32) = nI (a + 1) from nI_1 a]
      rfl
    · have hb : a + 1 + i < V 1 0 := by omega
      have hor := or8 (WB_th hB hlt) (WB_th hB hb)
      rw [if_neg (nI_ge hb (by omega)), alike_M hM hB hlt hb, if_pos (ibw hB hlt), if_pos (ibw hB hb), thM hM hB hlt, thM hM hB hb, or_nI, ko_M hX hB (by omega), Option.bind_some, show nI (a + 1 + i) + (1 : Int32) = nI (a + 1 + (i + 1)) from nI_1 _]
      refine Or.inr ⟨by omega, ?_⟩
      have hle2 := twI_le (bet := ltB) (p := unP V) (f := shN V) (a := a) (c := 8) (m := V 1 0) (fun _ _ => shN_le) hle i (by omega)
      have hs := shN_le (V := V) (a := a) (b := a + 1 + i)
      have hk2 := ko_lt hB (bits := V 9 a ||| V 9 (a + 1 + i)) h8
      have hcode : (10 : Int32) * nI a + nI (a + 1 + i) = nI (10 * a + (a + 1 + i)) := by rw [show (10 : Int32) = nI 10 from rfl, pk_mul, nI_add]
      rw [hcode]
      by_cases hp : unP V a (a + 1 + i) = true
      · have hp2 := of_decide_eq_true hp
        rw [hp2, if_pos rfl]
        cases ho : twI ltB (unP V) (shN V) a (twO ltB (unP V) (shN V) (V 1 0) a) i with
        | none =>
          rw [if_pos (show nI (shN V a (a + 1 + i)) < tv 9 none from nI_lt (b := 9) (by omega) (by decide))]
          refine ⟨_, _, _, ⟨?_, ?_, rfl⟩, rfl⟩
          · rw [twI, ho]; simp [twS, hp, tv]
          · rw [twI, ho]; simp [twS, hp, tw]
        | some q =>
          have hq := hle2 q ho
          by_cases e3 : q.1 ≤ shN V a (a + 1 + i)
          · have hbt : ltB (shN V a (a + 1 + i)) q.1 = false := decide_eq_false (by omega)
            rw [if_neg (show ¬ nI (shN V a (a + 1 + i)) < tv 9 (some q) from nI_nlt e3 (by omega))]
            refine ⟨_, _, _, ⟨?_, ?_, rfl⟩, rfl⟩
            · rw [twI, ho]; simp [twS, hbt]
            · rw [twI, ho]; simp [twS, hbt]
          · have hbt : ltB (shN V a (a + 1 + i)) q.1 = true := decide_eq_true (by omega)
            rw [if_pos (show nI (shN V a (a + 1 + i)) < tv 9 (some q) from nI_lt (by omega) (by omega))]
            refine ⟨_, _, _, ⟨?_, ?_, rfl⟩, rfl⟩
            · rw [twI, ho]; simp [twS, hbt, hp, tv]
            · rw [twI, ho]; simp [twS, hbt, hp, tw]
      · have hp1 : unP V a (a + 1 + i) = false := by simpa using hp
        have hp2 := of_decide_eq_false hp1
        rw [if_neg (fun q => hp2 ((nI_eq (by omega) (by omega)).mp q))]
        have ho : twI ltB (unP V) (shN V) a (twO ltB (unP V) (shN V) (V 1 0) a) (i + 1) = twI ltB (unP V) (shN V) a (twO ltB (unP V) (shN V) (V 1 0) a) i := by rw [twI]; simp [twS, hp1]
        exact ⟨_, _, _, ⟨rfl, rfl, rfl⟩, by rw [ho]⟩
/-! the most apart -/
theorem mx_ge {f : Nat → Nat} {set i : Nat} (hb : set.testBit i = true) : ∀ {n : Nat}, i < n → f i ≤ mxN f set n
  | n + 1, h => by
    rw [mxN]
    by_cases e : i = n
    · subst e; rw [if_pos hb]; omega
    · have := mx_ge (f := f) hb (by omega : i < n)
      split <;> omega
theorem mi_le {f : Nat → Nat} {set i : Nat} (hb : set.testBit i = true) : ∀ {n : Nat}, i < n → miN f set n ≤ f i
  | n + 1, h => by
    rw [miN]
    by_cases e : i = n
    · subst e; rw [if_pos hb]; omega
    · have := mi_le (f := f) hb (by omega : i < n)
      split <;> omega
theorem mx_at {f : Nat → Nat} {set : Nat} : ∀ {n : Nat}, mxN f set n = 0 ∨ ∃ i, i < n ∧ set.testBit i = true ∧ f i = mxN f set n
  | 0 => Or.inl rfl
  | n + 1 => by
    rw [mxN]
    by_cases e : set.testBit n = true
    · rw [if_pos e]
      rcases mx_at (f := f) (set := set) (n := n) with h | ⟨i, h1, h2, h3⟩
      · exact Or.inr ⟨n, by omega, e, by omega⟩
      · by_cases c : mxN f set n ≤ f n
        · exact Or.inr ⟨n, by omega, e, by omega⟩
        · exact Or.inr ⟨i, by omega, h2, by omega⟩
    · rw [if_neg e]
      rcases mx_at (f := f) (set := set) (n := n) with h | ⟨i, h1, h2, h3⟩
      · exact Or.inl h
      · exact Or.inr ⟨i, by omega, h2, h3⟩
theorem mi_at {f : Nat → Nat} {set : Nat} : ∀ {n : Nat}, miN f set n = 1000 ∨ ∃ i, i < n ∧ set.testBit i = true ∧ f i = miN f set n
  | 0 => Or.inl rfl
  | n + 1 => by
    rw [miN]
    by_cases e : set.testBit n = true
    · rw [if_pos e]
      rcases mi_at (f := f) (set := set) (n := n) with h | ⟨i, h1, h2, h3⟩
      · by_cases c : f n ≤ 1000
        · exact Or.inr ⟨n, by omega, e, by omega⟩
        · exact Or.inl (by omega)
      · by_cases c : f n ≤ miN f set n
        · exact Or.inr ⟨n, by omega, e, by omega⟩
        · exact Or.inr ⟨i, by omega, h2, by omega⟩
    · rw [if_neg e]
      rcases mi_at (f := f) (set := set) (n := n) with h | ⟨i, h1, h2, h3⟩
      · exact Or.inl h
      · exact Or.inr ⟨i, by omega, h2, h3⟩
theorem apart_M {V : Nat → Nat → Nat} {S : OS} (hM : MR V S) (hB : WB V) {set h : Nat} (hs : set < 2 ^ 31) (hh : h < 24) : f_X8_mostApart S (nI set) (nI h) = some (nI (apN V set h)) := by
  have h6 := hB.2.1
  have hX := MR_MB hM
  have hle := fun x => ho_le hB (bits := x) hh
  have hap := apN_le hB (set := set) hh
  have hin : ∀ a b, a < V 1 0 → b < V 1 0 → set.testBit a = true → set.testBit b = true → adN (ho V (V 9 a) h) (ho V (V 9 b) h) ≤ apN V set h := by
    intro a b ha hb h1 h2
    have g1 := mx_ge (f := fun w => ho V (V 9 w) h) h1 ha
    have g2 := mx_ge (f := fun w => ho V (V 9 w) h) h2 hb
    have g3 := mi_le (f := fun w => ho V (V 9 w) h) h1 ha
    have g4 := mi_le (f := fun w => ho V (V 9 w) h) h2 hb
    unfold apN adN
    split <;> omega
  unfold f_X8_mostApart
  refine lp_run2 (V 1 0) (fun i v s => s = nI i ∧ ∃ M, v = nI M ∧ M ≤ apN V set h ∧ ∀ a b, a < i → b < V 1 0 → set.testBit a = true → set.testBit b = true → adN (ho V (V 9 a) h) (ho V (V 9 b) h) ≤ M) _ ?_ FU 0 _ _ (Nat.zero_le _) ⟨rfl, 0, rfl, Nat.zero_le _, fun a b ha => by omega⟩ (by rw [FU_1000]; omega)
  rintro k a v s hi ⟨rfl, M0, rfl, hM0, hall⟩
  unfold b_X8_mostApart_5
  rw [hM.1 1 (by decide)]
  by_cases e : a = V 1 0
  · left
    subst e
    rw [if_pos (nI_le (Nat.le_refl _) (by omega))]
    have : M0 = apN V set h := by
      refine Nat.le_antisymm hM0 ?_
      rcases mx_at (f := fun w => ho V (V 9 w) h) (set := set) (n := V 1 0) with g | ⟨x, x1, x2, x3⟩
      · unfold apN; rw [g]; omega
      · rcases mi_at (f := fun w => ho V (V 9 w) h) (set := set) (n := V 1 0) with g | ⟨y, y1, y2, y3⟩
        · have := hle (V 9 x)
          unfold apN; rw [g, ← x3]
          show ho V (V 9 x) h - 1000 ≤ M0
          omega
        · have := hall x y x1 y1 x2 y2
          unfold apN
          rw [← x3, ← y3]
          show ho V (V 9 x) h - ho V (V 9 y) h ≤ M0
          unfold adN at this
          split at this <;> omega
    rw [this]
  · have hlt : a < V 1 0 := by omega
    rw [if_neg (nI_ge hlt (by omega))]
    refine Or.inr ⟨hlt, ?_⟩
    suffices hsuf : ∃ M, M ≤ apN V set h ∧ (∀ x b, x < a + 1 → b < V 1 0 → set.testBit x = true → set.testBit b = true → adN (ho V (V 9 x) h) (ho V (V 9 b) h) ≤ M) ∧ Lp2 (b_X8_mostApart_17 S k (nI set) (nI h) (nI a)) FU (nI M0) 0 = k (nI M) (nI (a + 1)) by
      obtain ⟨M, m1, m2, m3⟩ := hsuf
      exact ⟨_, _, ⟨rfl, M, rfl, m1, m2⟩, m3⟩
    have hrun : ∀ (d i M1 fuel : Nat), i + d = V 1 0 → d < fuel → M1 ≤ apN V set h → (∀ x b, x < a → b < V 1 0 → set.testBit x = true → set.testBit b = true → adN (ho V (V 9 x) h) (ho V (V 9 b) h) ≤ M1) → (∀ b, b < i → set.testBit a = true → set.testBit b = true → adN (ho V (V 9 a) h) (ho V (V 9 b) h) ≤ M1) → ∃ M, M ≤ apN V set h ∧ (∀ x b, x < a + 1 → b < V 1 0 → set.testBit x = true → set.testBit b = true → adN (ho V (V 9 x) h) (ho V (V 9 b) h) ≤ M) ∧ Lp2 (b_X8_mostApart_17 S k (nI set) (nI h) (nI a)) fuel (nI M1) (nI i) = k (nI M) (nI (a + 1)) := by
      intro d
      induction d with
      | zero =>
        intro i M1 fuel hid hf g1 g2 g3
        obtain ⟨fuel, rfl⟩ : ∃ f, fuel = f + 1 := ⟨fuel - 1, by omega⟩
        refine ⟨M1, g1, fun x b hx hb e1 e2 => ?_, ?_⟩
        · by_cases ex : x = a
          · subst ex; exact g3 b (by omega) e1 e2
          · exact g2 x b (by omega) hb e1 e2
        · rw [Lp2]
          unfold b_X8_mostApart_17 j_X8_mostApart_96
          rw [hM.1 1 (by decide), if_pos (nI_le (by omega) (by omega)), show nI a + (1 : Int32) = nI (a + 1) from nI_1 a]
      | succ d ih =>
        intro i M1 fuel hid hf g1 g2 g3
        obtain ⟨fuel, rfl⟩ : ∃ f, fuel = f + 1 := ⟨fuel - 1, by omega⟩
        have hb : i < V 1 0 := by omega
        have f0 : ∀ M2, M1 ≤ M2 → M2 ≤ apN V set h → (set.testBit a = true → set.testBit i = true → adN (ho V (V 9 a) h) (ho V (V 9 i) h) ≤ M2) → ∃ M, M ≤ apN V set h ∧ (∀ x b, x < a + 1 → b < V 1 0 → set.testBit x = true → set.testBit b = true → adN (ho V (V 9 x) h) (ho V (V 9 b) h) ≤ M) ∧ Lp2 (b_X8_mostApart_17 S k (nI set) (nI h) (nI a)) fuel (nI M2) (nI (i + 1)) = k (nI M) (nI (a + 1)) := fun M2 q1 q2 q3 =>
          ih (i + 1) M2 fuel (by omega) (by omega) q2 (fun x b hx hb e1 e2 => Nat.le_trans (g2 x b hx hb e1 e2) q1) (fun b hb e1 e2 => by
            by_cases eb : b = i
            · subst eb; exact q3 e1 e2
            · exact Nat.le_trans (g3 b (by omega) e1 e2) q1)
        have no : ∀ (M2 : Nat), j_X8_mostApart_74 S k (Lp2 (b_X8_mostApart_17 S k (nI set) (nI h) (nI a)) fuel) (nI set) (nI h) (nI M1) (nI a) (nI i) = Lp2 (b_X8_mostApart_17 S k (nI set) (nI h) (nI a)) fuel (nI M1) (nI (i + 1)) := by
          intro M2
          unfold j_X8_mostApart_74 j_X8_mostApart_75 j_X8_mostApart_89
          rw [if_pos (nI_pos' (by omega)), show nI i + (1 : Int32) = nI (i + 1) from nI_1 i]
        rw [Lp2]
        revert f0 no
        generalize Lp2 (b_X8_mostApart_17 S k (nI set) (nI h) (nI a)) fuel = G
        intro f0 no
        unfold b_X8_mostApart_17
        rw [hM.1 1 (by decide), if_neg (nI_ge hb (by omega)), has_M hs (by omega), Option.bind_some, if_bI, no 0]
        by_cases c1 : set.testBit a = true
        · rw [if_pos c1, has_M hs (by omega), Option.bind_some, if_bI]
          by_cases c2 : set.testBit i = true
          · have t1 := hle (V 9 a)
            have t2 := hle (V 9 i)
            have w1 := WB_th hB hlt
            have w2 := WB_th hB hb
            have ta := hin a i hlt hb c1 c2
            rw [if_pos c2, if_pos (ibw hB hlt), thM hM hB hlt, ho_M hX hB (by omega) hh, Option.bind_some, if_pos (ibw hB hb), thM hM hB hb, ho_M hX hB (by omega) hh, Option.bind_some, apt_M (by omega) (by omega), Option.bind_some]
            unfold j_X8_mostApart_75 j_X8_mostApart_89
            rw [show nI i + (1 : Int32) = nI (i + 1) from nI_1 i]
            by_cases c3 : adN (ho V (V 9 a) h) (ho V (V 9 i) h) ≤ M1
            · rw [if_pos (nI_le c3 (by omega))]
              exact f0 M1 (Nat.le_refl _) g1 (fun _ _ => c3)
            · rw [if_neg (nI_ge (by omega) (by omega))]
              exact f0 _ (by omega) ta (fun _ _ => Nat.le_refl _)
          · rw [if_neg c2]
            exact f0 M1 (Nat.le_refl _) g1 (fun _ q => absurd q c2)
        · rw [if_neg c1]
          exact f0 M1 (Nat.le_refl _) g1 (fun q => absurd q c1)
    exact hrun (V 1 0) 0 M0 FU (by omega) (by rw [FU_1000]; omega) hM0 hall (fun b hb => by omega)
theorem fair_M {V : Nat → Nat → Nat} {S : OS} (hM : MR V S) (hB : WB V) {h kk : Nat} (hh : h < 24) (hk0 : 1 ≤ kk) (hk : kk ≤ 6) : Lp2 (b_X8_fair_54 (nI h) (nI kk) S) FU (-9) 0 = some (ob (-9) (fairN V h kk), S) := by
  have h6 := hB.2.1
  have hp6 : 2 ^ V 1 0 ≤ 2 ^ 6 := Nat.pow_le_pow_right (by decide) h6
  refine sh_best (bet := ltF (fun set => apN V set h)) (p := fun set => decide (1 ≤ set) && decide (pc 8 set = kk)) (n := 2 ^ V 1 0) (ex := fun b => some (b, S)) (by omega) ?_ ?_
  · intro k o ho
    unfold b_X8_fair_54
    rw [hM.1 1 (by decide), sh1 _ (by omega), if_pos (nI_le (Nat.le_refl _) (by omega))]
  · intro k o i hi ho
    have f1 := apN_le hB (set := i) hh
    have hpc := pc_le 8 i
    have hpe : (decide (1 ≤ i) && decide (pc 8 i = kk)) = decide (pc 8 i = kk) := by
      by_cases c : 1 ≤ i
      · rw [decide_eq_true c, Bool.true_and]
      · have c0 : i = 0 := by omega
        rw [c0, show pc 8 0 = 0 from rfl, decide_eq_false (by omega : ¬ 0 = kk), Bool.and_false]
    unfold b_X8_fair_54 j_X8_fair_96 j_X8_fair_100
    rw [hM.1 1 (by decide), sh1 _ (by omega), if_neg (nI_ge hi (by omega)), bc_M i (by omega), Option.bind_some, show nI i + (1 : Int32) = nI (i + 1) from nI_1 i]
    by_cases e : pc 8 i = kk
    · have hp : (fun set => decide (1 ≤ set) && decide (pc 8 set = kk)) i = true := by show (decide (1 ≤ i) && decide (pc 8 i = kk)) = true; rw [hpe]; exact decide_eq_true e
      rw [if_pos (congrArg nI e)]
      cases o with
      | none => rw [if_pos (by decide), amS_n hp]; rfl
      | some b =>
        obtain ⟨h1, h2⟩ := ho b rfl
        have f2 := apN_le hB (set := b) hh
        rw [show ob (-9) (some b) = nI b from rfl, if_neg (nI_pos (by omega)), apart_M hM hB (by omega) hh, Option.bind_some, apart_M hM hB (by omega) hh, Option.bind_some]
        by_cases e2 : apN V b h ≤ apN V i h
        · rw [if_pos (nI_le e2 (by omega)), amS_f (by exact dcF e2)]; rfl
        · rw [if_neg (nI_ge (by omega) (by omega)), amS_t hp (by exact dcT e2)]; rfl
    · have hp : (fun set => decide (1 ≤ set) && decide (pc 8 set = kk)) i = false := by show (decide (1 ≤ i) && decide (pc 8 i = kk)) = false; rw [hpe]; exact decide_eq_false e
      rw [if_neg (fun q => e ((nI_eq (by omega) (by omega)).mp q)), amS_p hp]
