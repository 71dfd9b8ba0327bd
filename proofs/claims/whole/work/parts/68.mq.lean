/-! PURE: parts of numbers, balls, lots -/
theorem lN_ti {n : Nat} (h : n < 2 ^ 63) : (lN n).toInt = (n : Int) := lg_ofNat_toInt h
theorem lN_eq2 {a b : Nat} (ha : a < 2 ^ 63) (hb : b < 2 ^ 63) : lN a = lN b ↔ a = b := by
  constructor
  · intro h
    have := congrArg Int64.toInt h
    rw [lN_ti ha, lN_ti hb] at this
    omega
  · rintro rfl; rfl
theorem lN_div {a b : Nat} (ha : a < 2 ^ 63) (h0 : 0 < b) (hb : b < 2 ^ 63) : lN a / lN b = lN (a / b) := by
  apply Int64.toInt_inj.mp
  have := Nat.div_le_self a b
  rw [lg_ldiv_nonneg (by rw [lN_ti ha]; omega) (by rw [lN_ti hb]; omega), lN_ti ha, lN_ti hb, lN_ti (by omega)]
  rfl
theorem lN_rem {a b : Nat} (ha : a < 2 ^ 63) (h0 : 0 < b) (hb : b < 2 ^ 63) : remL (lN a) (lN b) = lN (a % b) := by
  unfold remL
  have h1 := Nat.div_add_mod a b
  rw [lN_div ha h0 hb, lN_mul, lN_sub (by rw [Nat.mul_comm]; omega), Nat.mul_comm]
  congr 1
  omega
theorem half {a b k : Nat} (h0 : 0 < b) (hb : b < 2 ^ (k + 1)) (h1 : 0 < a % b) : b % (a % b) < 2 ^ k := by
  have hlt := Nat.mod_lt a h0
  have h2 := Nat.div_add_mod b (a % b)
  have h3 := Nat.mod_lt b h1
  have h4 : 1 ≤ b / (a % b) := (Nat.le_div_iff_mul_le h1).mpr (by omega)
  have h5 : a % b ≤ a % b * (b / (a % b)) := Nat.le_mul_of_pos_right _ h4
  rw [Nat.pow_succ] at hb
  omega
theorem gcd_M : ∀ (k a b fuel : Nat), a < 2 ^ 63 → b < 2 ^ 63 → b < 2 ^ k → 2 * k + 1 ≤ fuel → Lp2 b_X8_divisor_6 fuel (lN a) (lN b) = some (lN (Nat.gcd a b))
  | k, a, b, fuel, ha, hb, hk, hf => by
    obtain ⟨fuel, rfl⟩ : ∃ f, fuel = f + 1 := ⟨fuel - 1, by omega⟩
    rw [Lp2]
    unfold b_X8_divisor_6
    by_cases e : b = 0
    · subst e
      rw [if_pos (show lg_cmp (lN 0) 0 = 0 from (lg_cmp_eq _ _).mpr rfl), Nat.gcd_zero_right]
    · have hne : ¬ lN b = 0 := fun q => e ((lN_eq2 (b := 0) hb (by decide)).mp q)
      rw [if_neg (fun q => hne ((lg_cmp_eq _ _).mp q)), if_neg hne, lN_rem ha (by omega) hb]
      have hk0 : k ≠ 0 := fun q => by subst q; omega
      obtain ⟨k, rfl⟩ : ∃ j, k = j + 1 := ⟨k - 1, by omega⟩
      obtain ⟨fuel, rfl⟩ : ∃ f, fuel = f + 1 := ⟨fuel - 1, by omega⟩
      have hm := Nat.mod_lt a (by omega : 0 < b)
      have hg : Nat.gcd a b = Nat.gcd b (a % b) := by rw [Nat.gcd_comm, Nat.gcd_rec, Nat.gcd_comm]
      rw [hg, Lp2]
      by_cases e1 : a % b = 0
      · rw [e1, if_pos (show lg_cmp (lN 0) 0 = 0 from (lg_cmp_eq _ _).mpr rfl), Nat.gcd_zero_right]
      · have hne1 : ¬ lN (a % b) = 0 := fun q => e1 ((lN_eq2 (b := 0) (by omega) (by decide)).mp q)
        have hm2 := Nat.mod_lt b (by omega : 0 < a % b)
        have hg2 : Nat.gcd b (a % b) = Nat.gcd (a % b) (b % (a % b)) := by rw [Nat.gcd_comm, Nat.gcd_rec, Nat.gcd_comm]
        rw [if_neg (fun q => hne1 ((lg_cmp_eq _ _).mp q)), if_neg hne1, lN_rem hb (by omega) (by omega), hg2]
        exact gcd_M k (a % b) (b % (a % b)) fuel (by omega) (by omega) (half (by omega) hk (by omega)) (by omega)
theorem gcd_C : ∀ (k a b fuel j : Nat), a < 2 ^ 63 → b < 2 ^ 63 → b < 2 ^ k → 2 * k + 1 ≤ fuel → j + 2 * k + 1 ≤ 200 → Lp3 b_X7_greatestDivisor_9 fuel (lN a) (lN b) (nI j) = some (lN (Nat.gcd a b))
  | k, a, b, fuel, j, ha, hb, hk, hf, hj => by
    obtain ⟨fuel, rfl⟩ : ∃ f, fuel = f + 1 := ⟨fuel - 1, by omega⟩
    rw [Lp3]
    unfold b_X7_greatestDivisor_9
    rw [if_neg (show ¬ (200 : Int32) ≤ nI j from nI_ge (b := 200) (by omega) (by decide))]
    by_cases e : b = 0
    · subst e
      rw [if_pos (show lg_cmp (lN 0) 0 = 0 from (lg_cmp_eq _ _).mpr rfl), Nat.gcd_zero_right]
    · have hne : ¬ lN b = 0 := fun q => e ((lN_eq2 (b := 0) hb (by decide)).mp q)
      rw [if_neg (fun q => hne ((lg_cmp_eq _ _).mp q)), if_neg hne, lN_rem ha (by omega) hb, show nI j + (1 : Int32) = nI (j + 1) from nI_1 j]
      have hk0 : k ≠ 0 := fun q => by subst q; omega
      obtain ⟨k, rfl⟩ : ∃ j, k = j + 1 := ⟨k - 1, by omega⟩
      obtain ⟨fuel, rfl⟩ : ∃ f, fuel = f + 1 := ⟨fuel - 1, by omega⟩
      have hm := Nat.mod_lt a (by omega : 0 < b)
      have hg : Nat.gcd a b = Nat.gcd b (a % b) := by rw [Nat.gcd_comm, Nat.gcd_rec, Nat.gcd_comm]
      rw [hg, Lp3, if_neg (show ¬ (200 : Int32) ≤ nI (j + 1) from nI_ge (b := 200) (by omega) (by decide))]
      by_cases e1 : a % b = 0
      · rw [e1, if_pos (show lg_cmp (lN 0) 0 = 0 from (lg_cmp_eq _ _).mpr rfl), Nat.gcd_zero_right]
      · have hne1 : ¬ lN (a % b) = 0 := fun q => e1 ((lN_eq2 (b := 0) (by omega) (by decide)).mp q)
        have hm2 := Nat.mod_lt b (by omega : 0 < a % b)
        have hg2 : Nat.gcd b (a % b) = Nat.gcd (a % b) (b % (a % b)) := by rw [Nat.gcd_comm, Nat.gcd_rec, Nat.gcd_comm]
        rw [if_neg (fun q => hne1 ((lg_cmp_eq _ _).mp q)), if_neg hne1, lN_rem hb (by omega) (by omega), hg2, show nI (j + 1) + (1 : Int32) = nI (j + 1 + 1) from nI_1 _]
        exact gcd_C k (a % b) (b % (a % b)) fuel (j + 1 + 1) (by omega) (by omega) (half (by omega) hk (by omega)) (by omega) (by omega)
/-- a part of a fraction: v 0 above, else below -/
def ptA (a b : Nat) (v : Int32) : Int64 := if Nat.gcd a b = 0 then (if v = 0 then 0 else 1) else if v = 0 then lN (a / Nat.gcd a b) else lN (b / Nat.gcd a b)
theorem gcd_lt {a b : Nat} (h : b < 2 ^ 62) (ha : a < 2 ^ 62) : Nat.gcd a b < 2 ^ 63 := by
  rcases Nat.eq_zero_or_pos b with q | q
  · subst q; rw [Nat.gcd_zero_right]; omega
  · have := Nat.le_of_dvd q (Nat.gcd_dvd_right a b); omega
theorem part_C {a b : Nat} {v : Int32} (ha : a < 2 ^ 62) (hb : b < 2 ^ 62) : f_X7_partOf (lN a) (lN b) v = some (ptA a b v) := by
  have hg := gcd_lt hb ha
  unfold f_X7_partOf f_X7_greatestDivisor ptA
  rw [show (0 : Int32) = nI 0 from rfl, gcd_C 63 a b FU 0 (by omega) (by omega) (by omega) (by rw [FU_1000]; omega) (by omega), Option.bind_some, show nI 0 = (0 : Int32) from rfl]
  by_cases e : Nat.gcd a b = 0
  · rw [if_pos e, e, if_neg (by decide)]
    split <;> rfl
  · have hne : ¬ lN (Nat.gcd a b) = 0 := fun q => e ((lN_eq2 (b := 0) hg (by decide)).mp q)
    rw [if_neg e, if_pos ((lg_cmp_ge _ _).mpr (by
      rw [Int64.le_iff_toInt_le, lN_ti hg]
      show (1 : Int) ≤ _
      omega)), if_neg hne, if_neg hne, lN_div (by omega) (by omega) hg, lN_div (by omega) (by omega) hg]
    split <;> rfl
theorem part_M {a b : Nat} {v : Int32} (ha : a < 2 ^ 62) (hb : b < 2 ^ 62) (h0 : 0 < b) : f_X8_partOf (lN a) (lN b) v = some (ptA a b v) := by
  have hg := gcd_lt hb ha
  have hg0 : ¬ Nat.gcd a b = 0 := fun q => by have := Nat.eq_zero_of_gcd_eq_zero_right q; omega
  have hne : ¬ lN (Nat.gcd a b) = 0 := fun q => hg0 ((lN_eq2 (b := 0) hg (by decide)).mp q)
  unfold f_X8_partOf f_X8_divisor ptA
  rw [gcd_M 63 a b FU (by omega) (by omega) (by omega) (by rw [FU_1000]; omega)]
  simp only [Option.bind_some, if_neg hne, if_neg hg0]
  rw [lN_div (by omega) (by omega) hg, lN_div (by omega) (by omega) hg]
  split <;> rfl
/-! balls -/
theorem bp_M {V : Nat → Nat → Nat} {S : OS} (hM : MR V S) (hB : WB V) (hL : WL V) {l bits balls : Nat} (hl : l < 5) (hb : bits < 256) (hb2 : balls < 256) : f_X8_passesBalls S (nI l) (nI bits) (nI balls) = some (bI (bpN V l bits balls)) := by
  have h8 := hB.1
  have hh := hL.1
  have h4 := hL.2.1
  unfold f_X8_passesBalls
  refine lp_run2 (V 0 0) (fun i a s => a = nI (sb (gb V l balls (V 3 0)) bits i) ∧ s = nI i ∧ alB (fun s => !bits.testBit s || decide (gb V l balls (V 3 0) s ≤ 5)) i = true) _ ?_ FU 0 _ _ (Nat.zero_le _) ⟨rfl, rfl, rfl⟩ (by rw [FU_1000]; omega)
  rintro k i a s hi ⟨rfl, rfl, hk⟩
  unfold b_X8_passesBalls_6
  rw [hM.1 0 (by decide)]
  by_cases e : i = V 0 0
  · left
    subst e
    rw [if_pos (nI_le (Nat.le_refl _) (by omega))]
    unfold j_X8_passesBalls_81 bpN
    rw [hk, Bool.true_and, show S.1 11 = nI (V 4 0) from hM.1 4 (by decide)]
    have h3 := sb_le (g := gb V l balls (V 3 0)) (bits := bits) (c := 26) (n := V 0 0) (fun i hi => gb_le hB (by omega) hh)
    by_cases e : sb (gb V l balls (V 3 0)) bits (V 0 0) ≤ V 4 0
    · rw [if_neg (nI_nlt e (by omega)), decide_eq_true e]; rfl
    · rw [if_pos (nI_lt (by omega) (by omega)), decide_eq_false e]; rfl
  · have hlt : i < V 0 0 := by omega
    rw [if_neg (nI_ge hlt (by omega)), has_M (by omega) (by omega), Option.bind_some, if_bI]
    by_cases e2 : bits.testBit i = true
    · have hg := gb_le hB (l := l) (balls := balls) (by omega : i < 8) hh
      have fin : j_X8_passesBalls_57 S k (nI l) (nI bits) (nI balls) (nI (sb (gb V l balls (V 3 0)) bits i)) (nI i) (if balls.testBit i = true then nI (blN (V 6 i)) else 0) (nI (fs V (V 10 l) (V 11 l) (V 3 0) i)) = if gb V l balls (V 3 0) i ≤ 5 then k (nI (sb (gb V l balls (V 3 0)) bits (i + 1))) (nI (i + 1)) else some 0 := by
        unfold j_X8_passesBalls_57 j_X8_passesBalls_75
        have eg : nI (fs V (V 10 l) (V 11 l) (V 3 0) i) + (if balls.testBit i = true then nI (blN (V 6 i)) else (0 : Int32)) = nI (gb V l balls (V 3 0) i) := by
          unfold gb
          by_cases eb : balls.testBit i = true
          · rw [if_pos eb, if_pos eb, nI_add]
          · rw [if_neg eb, if_neg eb]; exact nI_add _ 0
        rw [eg, nI_add, show nI i + (1 : Int32) = nI (i + 1) from nI_1 i, sb, if_pos e2]
        by_cases e3 : gb V l balls (V 3 0) i ≤ 5
        · rw [if_pos e3, if_pos (show nI (gb V l balls (V 3 0) i) ≤ (5 : Int32) from nI_le (b := 5) e3 (by decide))]
        · rw [if_neg e3, if_neg (show ¬ nI (gb V l balls (V 3 0) i) ≤ (5 : Int32) from nI_ge (a := 5) (by omega) (by omega))]
      have body : (if balls.testBit i = true then (f_X8_ballOf S (nI i)).bind (fun x4 => j_X8_passesBalls_57 S k (nI l) (nI bits) (nI balls) (nI (sb (gb V l balls (V 3 0)) bits i)) (nI i) x4 (nI (fs V (V 10 l) (V 11 l) (V 3 0) i))) else j_X8_passesBalls_57 S k (nI l) (nI bits) (nI balls) (nI (sb (gb V l balls (V 3 0)) bits i)) (nI i) 0 (nI (fs V (V 10 l) (V 11 l) (V 3 0) i))) = if gb V l balls (V 3 0) i ≤ 5 then k (nI (sb (gb V l balls (V 3 0)) bits (i + 1))) (nI (i + 1)) else some 0 := by
        rw [← fin]
        by_cases eb : balls.testBit i = true
        · rw [if_pos eb, if_pos eb, ball_M (MR_MB hM) hB (by omega), Option.bind_some]
        · rw [if_neg eb, if_neg eb]
      rw [if_pos e2, show S.1 10 = nI (V 3 0) from hM.1 3 (by decide), finM hM hB hL hl (by omega) hh, Option.bind_some, has_M (by omega) (by omega), Option.bind_some, if_bI, body]
      by_cases e3 : gb V l balls (V 3 0) i ≤ 5
      · rw [if_pos e3]
        exact Or.inr ⟨hlt, _, _, ⟨rfl, rfl, by rw [alB, hk, e2]; simp [e3]⟩, rfl⟩
      · rw [if_neg e3]
        left
        unfold bpN
        rw [alB_no hlt (by rw [e2]; simp; omega), Bool.false_and]
        rfl
    · rw [if_neg e2]
      unfold j_X8_passesBalls_75
      refine Or.inr ⟨hlt, _, _, ⟨?_, nI_1 i, by rw [alB, hk]; simp [e2]⟩, rfl⟩
      rw [sb, if_neg e2, Nat.add_zero]
theorem nd0_le {a b : Nat} (ha : a < 256) (h : nd a b = 0) : a ≤ b := by
  have e : a &&& b = a := by
    apply Nat.eq_of_testBit_eq
    intro i
    rw [Nat.testBit_and]
    by_cases hi : i < 8
    · have h2 : (nd a b).testBit i = false := by rw [h]; exact Nat.zero_testBit i
      rw [nd_bit hi] at h2
      cases ha : a.testBit i <;> cases hb : b.testBit i <;> simp [ha, hb] at h2 ⊢
    · rw [Nat.testBit_lt_two_pow (Nat.lt_of_lt_of_le ha (show 2 ^ 8 ≤ 2 ^ i from Nat.pow_le_pow_right (by decide) (by omega)))]
      rfl
  rw [← e]
  exact Nat.and_le_right
theorem chN_st {V : Nat → Nat → Nat} {l bits t : Nat} : ∀ {n : Nat}, bits + 1 ≤ n → n ≤ 256 → chN V l bits t n = chN V l bits t (bits + 1)
  | 0, h, _ => by omega
  | n + 1, h, hn => by
    by_cases e : n = bits
    · subst e; rfl
    · rw [chN, if_neg (fun q => by have := nd0_le (by omega) q.1; omega), Nat.add_zero, chN_st (by omega) (by omega)]
theorem chN_le {V : Nat → Nat → Nat} {l bits t : Nat} (ht : 2 ≤ t) (ht2 : t ≤ 20) : ∀ n, chN V l bits t n ≤ n * 19 ^ 8
  | 0 => Nat.zero_le _
  | n + 1 => by
    have ih := chN_le (V := V) (l := l) (bits := bits) ht ht2 n
    have hp : (t - 1) ^ (pc 8 bits - pc 8 n) ≤ 19 ^ 8 := by
      have h1 := pc_le 8 bits
      refine Nat.le_trans (Nat.pow_le_pow_left (by omega : t - 1 ≤ 19) _) (Nat.pow_le_pow_right (by decide) (by omega))
    rw [chN, Nat.add_mul, Nat.one_mul]
    generalize (19 : Nat) ^ 8 = C at ih hp ⊢
    split <;> omega
theorem ball_A {V : Nat → Nat → Nat} {S : OS} (hM : MR V S) (hB : WB V) (hL : WL V) {l w t : Nat} {what : Int32} (hl : l < 5) (hw : w < V 1 0) (ht : 2 ≤ t) (ht2 : t ≤ 20) : j_X8_ball_48 (nI l) (nI w) (nI t) what 0 S = some (ptA (chN V l (V 9 w) t (V 9 w + 1)) (t ^ pc 8 (V 9 w)) what, S) := by
  have hth := WB_th hB hw
  have h8 := hB.1
  have hp8 := p2_8 h8
  have hpc := pc_le 8 (V 9 w)
  have hthp := (hB.2.2.2.2 w hw).2
  have hpow : t ^ pc 8 (V 9 w) ≤ 20 ^ 8 := Nat.le_trans (Nat.pow_le_pow_left ht2 _) (Nat.pow_le_pow_right (by decide) hpc)
  have hpow0 : 0 < t ^ pc 8 (V 9 w) := Nat.pow_pos (by omega)
  unfold j_X8_ball_48
  rw [if_pos rfl, if_pos (ibw hB hw), thM hM hB hw]
  refine lp_run2 (pc 8 (V 9 w)) (fun i a s => a = lN (t ^ i) ∧ s = nI i) _ ?_ FU 0 _ _ (Nat.zero_le _) ⟨rfl, rfl⟩ (by rw [FU_1000]; omega)
  rintro k i a s hi ⟨rfl, rfl⟩
  unfold b_X8_ball_77
  rw [bc_M _ hth, Option.bind_some]
  by_cases e : i = pc 8 (V 9 w)
  · left
    subst e
    rw [if_pos (nI_le (Nat.le_refl _) (by omega))]
    unfold j_X8_ball_100
    refine lp_run2 (2 ^ V 0 0) (fun i a s => a = lN (chN V l (V 9 w) t i) ∧ s = nI i) _ ?_ FU 0 _ _ (Nat.zero_le _) ⟨rfl, rfl⟩ (by rw [FU_1000]; omega)
    rintro k i a s hi ⟨rfl, rfl⟩
    have hch := chN_le (V := V) (l := l) (bits := V 9 w) ht ht2 i
    unfold b_X8_ball_103
    rw [hM.1 0 (by decide), sh1 _ (by omega)]
    by_cases e : i = 2 ^ V 0 0
    · left
      have hb : i * 19 ^ 8 ≤ 256 * 19 ^ 8 := Nat.mul_le_mul_right _ (by omega)
      rw [if_pos (by rw [e]; exact nI_le (Nat.le_refl _) (by omega)), part_M (by omega) (by omega) hpow0, Option.bind_some, chN_st (by omega) (by omega)]
    · have hlt : i < 2 ^ V 0 0 := by omega
      rw [if_neg (nI_ge hlt (by omega)), nd_nI (by omega : i < 256)]
      unfold j_X8_ball_181
      rw [show nI i + (1 : Int32) = nI (i + 1) from nI_1 i]
      refine Or.inr ⟨hlt, ?_⟩
      by_cases e2 : nd i (V 9 w) = 0
      · have hp := pc_sub e2 8 (Nat.le_refl 8)
        rw [e2, if_pos (show nI 0 = 0 from rfl), bp_M hM hB hL hl hth (by omega), Option.bind_some, if_bI]
        by_cases e3 : bpN V l (V 9 w) i = true
        · rw [if_pos e3, bc_M i (by omega), Option.bind_some]
          refine ⟨_, _, ⟨by rw [chN, if_pos ⟨e2, e3⟩], rfl⟩, ?_⟩
          refine lp_run2 (pc 8 (V 9 w) - pc 8 i) (fun j a s => a = lN ((t - 1) ^ j) ∧ s = nI (pc 8 i + j)) _ ?_ FU 0 _ _ (Nat.zero_le _) ⟨rfl, rfl⟩ (by rw [FU_1000]; omega)
          rintro k2 j a s hj ⟨rfl, rfl⟩
          unfold b_X8_ball_149
          rw [bc_M _ hth, Option.bind_some]
          by_cases e4 : j = pc 8 (V 9 w) - pc 8 i
          · left
            rw [if_pos (nI_le (by omega) (by omega))]
            unfold j_X8_ball_174 j_X8_ball_181
            rw [lN_add, show nI i + (1 : Int32) = nI (i + 1) from nI_1 i, e4]
          · rw [if_neg (nI_ge (by omega) (by omega)), show nI t - (1 : Int32) = nI (t - 1) from pk_sub (a := t) (b := 1) (by omega), nI_l (by omega), lN_mul, ← Nat.pow_succ]
            exact Or.inr ⟨by omega, _, _, ⟨rfl, nI_1 _⟩, rfl⟩
        · rw [if_neg e3]
          exact ⟨_, _, ⟨by rw [chN, if_neg (fun q => e3 q.2), Nat.add_zero], rfl⟩, rfl⟩
      · rw [if_neg (nI_ne0 (Nat.pos_of_ne_zero e2) (by have := nd_lt (b := V 9 w) (by omega : i < 256); omega))]
        exact ⟨_, _, ⟨by rw [chN, if_neg (fun q => e2 q.1), Nat.add_zero], rfl⟩, rfl⟩
  · rw [if_neg (nI_ge (by omega) (by omega)), nI_l (by omega), lN_mul, ← Nat.pow_succ]
    exact Or.inr ⟨by omega, _, _, ⟨rfl, nI_1 _⟩, rfl⟩
/-! lots -/
theorem draw_M {S : OS} {d : Nat} (h0 : 0 < d) (hd : d < 2 ^ 31) : f_X8_draw S (nI d) = some (nI (qz (zN (S.1 28)) % d), su S 28 (zN (S.1 28))) := by
  have h : (zN (S.1 28)).toBitVec.toNat % 2 ^ 31 < 2 ^ 31 := Nat.mod_lt _ (by decide)
  have hq := qz_lt (zN (S.1 28))
  unfold f_X8_draw
  rw [if_neg (nI_ne0 h0 hd), show S.1 28 * (1103515245 : Int32) + (12345 : Int32) = zN (S.1 28) from rfl, z_and, show (65536 : Int32) = nI 65536 from rfl, pk_div h (by decide) (by decide), show (zN (S.1 28)).toBitVec.toNat % 2 ^ 31 / 65536 = qz (zN (S.1 28)) from rfl, rem_nI (by omega) h0 hd]
theorem lots_M {V : Nat → Nat → Nat} {S : OS} (hM : MR V S) (hB : WB V) (hL : WL V) {n : Nat} {z what : Int32} (hn : n ≤ 20) : ∃ z', j_X8_lots_27 (nI n) z what 0 S = some (lotA V n z what, su S 28 z') := by
  have h5 := hB.2.2.1
  have h6 := hB.2.1
  have hm : n * V 2 0 ≤ 100 := Nat.mul_le_mul hn h5
  unfold j_X8_lots_27
  rw [if_pos rfl, hM.1 1 (by decide)]
  by_cases e0 : V 1 0 = 0
  · refine ⟨S.1 28, ?_⟩
    rw [if_pos (by rw [e0]; rfl), su_id rfl]
    unfold lotA
    rw [if_pos e0]
  · refine ⟨ltZ z (n * V 2 0), ?_⟩
    rw [if_neg (nI_ne0 (by omega) (by omega))]
    refine lp_run4 (n * V 2 0) (fun k p f s t => p = nI (ltP V z k) ∧ f = nI (ltF2 V z k) ∧ s = nI k ∧ t = su S 28 (ltZ z k)) _ ?_ FU 0 _ _ _ _ (Nat.zero_le _) ⟨rfl, rfl, rfl, rfl⟩ (by rw [FU_1000]; omega)
    rintro kk k p f s t hk ⟨rfl, rfl, rfl, rfl⟩
    have hMz : ∀ y, MR V (su S 28 y) := fun y => MR_su hM (by decide)
    have e9 : ∀ y, (su S 28 y).1 9 = nI (V 2 0) := fun y => (hMz y).1 2 (by decide)
    have e8 : ∀ y, (su S 28 y).1 8 = nI (V 1 0) := fun y => (hMz y).1 1 (by decide)
    unfold b_X8_lots_62
    rw [e9, pk_mul]
    by_cases e : k = n * V 2 0
    · left
      subst e
      rw [if_pos (nI_le (Nat.le_refl _) (by omega))]
      unfold j_X8_lots_150 lotA
      rw [if_neg e0]
      split <;> rfl
    · have hlt : k < n * V 2 0 := by omega
      have hnl : 0 < V 2 0 := by
        rcases Nat.eq_zero_or_pos (V 2 0) with q | q
        · rw [q, Nat.mul_zero] at hlt; omega
        · exact q
      have hl : k % V 2 0 < V 2 0 := Nat.mod_lt _ hnl
      have hw := Nat.mod_lt (qz (zN (zN (ltZ z k)))) (by omega : 0 < V 1 0)
      have hh := Nat.mod_lt (qz (zN (ltZ z k))) (by decide : 0 < 24)
      have q0 : ¬ nI (V 2 0) = 0 := nI_ne0 hnl (by omega)
      rw [if_neg (nI_ge hlt (by omega)), show (24 : Int32) = nI 24 from rfl, draw_M (by decide) (by decide), Option.bind_some]
      simp only [su_s, su_up, e8]
      rw [draw_M (by omega) (by omega), Option.bind_some]
      simp only [su_s, su_up, e9, q0, ↓reduceIte]
      rw [rem_nI (by omega) hnl (by omega), pwM (hMz _) hB hL (by omega) hw hh, Option.bind_some, if_bI]
      unfold j_X8_lots_116
      simp only [e9, q0, ↓reduceIte]
      have hth := WB_th hB hw
      rw [rem_nI (by omega) hnl (by omega)]
      simp only [ibw hB hw, ↓reduceIte, thM (hMz (zN (zN (ltZ z k)))) hB hw, foM (hMz (zN (zN (ltZ z k)))) hB hL (show k % V 2 0 < 5 by omega) (show V 9 (qz (zN (zN (ltZ z k))) % V 1 0) < 2 ^ 31 by omega) hh, Option.bind_some]
      rw [show nI k + (1 : Int32) = nI (k + 1) from nI_1 k]
      refine Or.inr ⟨hlt, ?_⟩
      by_cases e3 : paB V (V 9 (qz (zN (zN (ltZ z k))) % V 1 0)) (V 10 (k % V 2 0)) (V 11 (k % V 2 0)) (qz (zN (ltZ z k)) % 24) (V 4 0) = true
      · rw [if_pos e3]
        exact ⟨_, _, _, _, ⟨by rw [ltP, if_pos e3]; exact nI_1 _, by rw [ltF2]; exact nI_add _ _, rfl, rfl⟩, rfl⟩
      · rw [if_neg e3]
        exact ⟨_, _, _, _, ⟨by rw [ltP, if_neg e3]; exact nI_add _ 0, by rw [ltF2]; exact nI_add _ _, rfl, rfl⟩, rfl⟩
theorem allk_M {V : Nat → Nat → Nat} {S : OS} (hM : MR V S) (hB : WB V) (hL : WL V) : Lp2 (b_X8_count_112 S) FU 0 0 = some (nI (akN V (V 2 0))) := by
  have h5 := hB.2.2.1
  refine lp_run2 (V 2 0) (fun i a s => a = nI (akN V i) ∧ s = nI i) _ ?_ FU 0 _ _ (Nat.zero_le _) ⟨rfl, rfl⟩ (by rw [FU_1000]; omega)
  rintro k i a s hi ⟨rfl, rfl⟩
  unfold b_X8_count_112
  rw [hM.1 2 (by decide)]
  by_cases e : i = V 2 0
  · left
    subst e
    rw [if_pos (nI_le (Nat.le_refl _) (by omega))]
  · have hlt : i < V 2 0 := by omega
    have e11 : S.2 6 i = nI (V 11 i) := hM.2 11 (by decide) (by decide) i (by show i < 5; omega)
    rw [if_neg (nI_ge hlt (by omega)), inb_t (by omega : i < 5) (by decide), nI_clamp (by omega), e11, bc_M _ (kn_lt hB hL (by omega)), Option.bind_some, nI_add]
    exact Or.inr ⟨hlt, _, _, ⟨rfl, nI_1 i⟩, rfl⟩
