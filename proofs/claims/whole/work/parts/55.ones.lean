/-! PURE: lessons, balls, gains, careers: the class -/
def nd (a b : Nat) : Nat := a &&& (b ^^^ 255)
theorem nd_bit {a b i : Nat} (h : i < 8) : (nd a b).testBit i = (a.testBit i && !b.testBit i) := by
  have e : (255 : Nat).testBit i = true := by
    have := Nat.testBit_two_pow_sub_one 8 i
    rw [show (2 ^ 8 - 1 : Nat) = 255 from rfl] at this
    rw [this]; simp [h]
  rw [nd, Nat.testBit_and, Nat.testBit_xor, e, Bool.xor_true]
theorem nd_lt {a b : Nat} (h : a < 256) : nd a b < 256 := Nat.lt_of_le_of_lt Nat.and_le_left h
theorem nd_nI {a b : Nat} (ha : a < 256) : nI a &&& (nI b ^^^ (-1 : Int32)) = nI (nd a b) := by
  rw [show (-1 : Int32) = nI 4294967295 by decide, xor_nI, and_nI]
  congr 1
  apply Nat.eq_of_testBit_eq
  intro i
  have h1 := Nat.testBit_two_pow_sub_one 32 i
  rw [show (2 ^ 32 - 1 : Nat) = 4294967295 from rfl] at h1
  have h2 := Nat.testBit_two_pow_sub_one 8 i
  rw [show (2 ^ 8 - 1 : Nat) = 255 from rfl] at h2
  rw [nd, Nat.testBit_and, Nat.testBit_and, Nat.testBit_xor, Nat.testBit_xor, h1, h2]
  by_cases hi : i < 8
  · simp [hi, (by omega : i < 32)]
  · rw [Nat.testBit_lt_two_pow (Nat.lt_of_lt_of_le ha (show 2 ^ 8 ≤ 2 ^ i from Nat.pow_le_pow_right (by decide) (by omega)))]
    simp
def cnB (p : Nat → Bool) : Nat → Nat
  | 0 => 0
  | n + 1 => cnB p n + if p n then 1 else 0
theorem cnB_le {p : Nat → Bool} : ∀ n, cnB p n ≤ n
  | 0 => Nat.le_refl 0
  | n + 1 => by
    have h := cnB_le (p := p) n
    rw [cnB]
    split <;> omega
theorem bs256 {p : Nat → Bool} {n : Nat} (h : n ≤ 8) : bs p n < 256 := Nat.lt_of_lt_of_le bs_lt (p2_8 h)
def dB (V : Nat → Nat → Nat) (l w s : Nat) : Bool := (V 9 w).testBit s && !(V 11 l).testBit s
def PL (V : Nat → Nat → Nat) (l w h k : Nat) : Bool := paB V (V 9 w) (V 10 l) (V 11 l ||| bs (dB V l w) k) h (V 4 0)
def lessN (V : Nat → Nat → Nat) (l w h : Nat) : Option Nat := fst (PL V l w h) (V 0 0 + 1)
theorem less_C {V : Nat → Nat → Nat} {T : OS} (hT : TR V T) (hB : WB V) (hL : WL V) {l w h : Nat} (hl : l < 5) (hw : w < V 1 0) (hh : h < 24) : f_X2_lessonsToPass T (nI l) (nI w) (nI h) = some (vo (-9) (cnB (dB V l w)) (lessN V l w h)) := by
  have hth := WB_th hB hw
  have h8 := hB.1
  have h6 := hB.2.1
  have hk := kn_lt hB hL hl
  have h9 := (hL.2.2.2 l hl).1
  have h4 := hL.2.1
  have pos : ∀ k, k ≤ 8 → (ltp V (V 9 w) (V 10 l) (V 11 l ||| bs (dB V l w) k) h ≤ V 4 0 ↔ PL V l w h k = true) := fun k hk2 => by
    unfold PL
    rw [← ltp_pa h4]
    exact ⟨fun q => decide_eq_true q, fun q => of_decide_eq_true q⟩
  have hlim := fun k => ltp_le hB (bits := V 9 w) (sk := V 10 l) (kn := V 11 l ||| bs (dB V l w) k) hh
  unfold f_X2_lessonsToPass
  rw [known_C hT hl, Option.bind_some, at_in (by omega : w < 6) (by decide), Option.bind_some, hT.2 9 (by decide) (by decide) w (by show w < 6; omega), skill_C hT hl, Option.bind_some, ltp_C hT hB hw hh h9 hk, Option.bind_some, hT.1 4 (by decide), nd_nI hth]
  have p0 := pos 0 (by decide)
  have l0 := hlim 0
  rw [show bs (dB V l w) 0 = 0 from rfl, Nat.or_zero] at p0 l0
  by_cases e0 : ltp V (V 9 w) (V 10 l) (V 11 l) h ≤ V 4 0
  · rw [if_neg (nI_nlt e0 (by omega))]
    unfold lessN
    rw [fst_at (i := 0) (fun j hj => by omega) (p0.mp e0) (by omega)]
    rfl
  · rw [if_pos (nI_lt (by omega) (by omega))]
    refine lp_run3 (V 0 0) (fun i kn c s => kn = nI (V 11 l ||| bs (dB V l w) i) ∧ c = nI (cnB (dB V l w) i) ∧ s = nI i ∧ ∀ j, j ≤ i → PL V l w h j = false) _ ?_ FU 0 _ _ _ (Nat.zero_le _) ⟨by rw [show bs (dB V l w) 0 = 0 from rfl, Nat.or_zero], rfl, rfl, fun j hj => by
      have : j = 0 := by omega
      subst this
      cases hq : PL V l w h 0 with
      | false => rfl
      | true => exact absurd (p0.mpr hq) e0⟩ (by rw [FU_1000]; omega)
    rintro k i kn c s hi ⟨rfl, rfl, rfl, hno⟩
    unfold b_X2_lessonsToPass_60 j_X2_lessonsToPass_123
    rw [hT.1 0 (by decide)]
    by_cases e : i = V 0 0
    · left
      subst e
      rw [if_pos (nI_le (Nat.le_refl _) (by omega))]
      unfold lessN
      rw [fst_no (fun j hj => hno j (by omega))]
      rfl
    · have hlt : i < V 0 0 := by omega
      have hd : (nd (V 9 w) (V 11 l)).testBit i = dB V l w i := nd_bit (by omega)
      rw [if_neg (nI_ge hlt (by omega)), has_C (by have := nd_lt (b := V 11 l) hth; omega) (by omega), Option.bind_some, if_bI, hd]
      by_cases e2 : dB V l w i = true
      · have hb : V 11 l ||| bs (dB V l w) i ||| 2 ^ i = V 11 l ||| bs (dB V l w) (i + 1) := by rw [bs, if_pos e2, Nat.or_assoc]
        have hb2 : V 11 l ||| bs (dB V l w) (i + 1) < 256 := or8 hk (bs256 (by omega))
        rw [if_pos e2, skill_C hT hl, Option.bind_some, sh1 i (by omega), or_nI, hb, ltp_C hT hB hw hh h9 hb2, Option.bind_some, hT.1 4 (by decide)]
        by_cases e3 : ltp V (V 9 w) (V 10 l) (V 11 l ||| bs (dB V l w) (i + 1)) h ≤ V 4 0
        · rw [if_neg (nI_nlt e3 (by omega))]
          left
          unfold lessN
          rw [fst_at (i := i + 1) (fun j hj => hno j (by omega)) ((pos (i + 1) (by omega)).mp e3) (by omega)]
          show some (nI (cnB (dB V l w) i) + 1) = some (nI (cnB (dB V l w) (i + 1)))
          rw [cnB, if_pos e2]
          rw [nI_1]
        · have := hlim (i + 1)
          rw [if_pos (nI_lt (by omega) (by omega))]
          refine Or.inr ⟨hlt, _, _, _, ⟨rfl, ?_, nI_1 i, fun j hj => ?_⟩, rfl⟩
          · rw [cnB, if_pos e2]; exact nI_1 _
          · by_cases ej : j = i + 1
            · subst ej
              cases hq : PL V l w h (i + 1) with
              | false => rfl
              | true => exact absurd ((pos (i + 1) (by omega)).mpr hq) e3
            · exact hno j (by omega)
      · have hb : bs (dB V l w) (i + 1) = bs (dB V l w) i := by rw [bs, if_neg e2, Nat.or_zero]
        rw [if_neg e2]
        refine Or.inr ⟨hlt, _, _, _, ⟨by rw [hb], ?_, nI_1 i, fun j hj => ?_⟩, rfl⟩
        · rw [cnB, if_neg e2, Nat.add_zero]
        · by_cases ej : j = i + 1
          · subst ej
            have := hno i (Nat.le_refl _)
            unfold PL at this ⊢
            rw [hb]; exact this
          · exact hno j (by omega)
/-- the least skill -/
def skN (V : Nat → Nat → Nat) (l w h : Nat) : Option Nat := fst (fun sk => paB V (V 9 w) sk (V 11 l) h (V 4 0)) 10
theorem lskill_C {V : Nat → Nat → Nat} {T : OS} (hT : TR V T) (hB : WB V) (hL : WL V) {l w h : Nat} (hl : l < 5) (hw : w < V 1 0) (hh : h < 24) : f_X2_leastSkill T (nI l) (nI w) (nI h) = some (ob (-9) (skN V l w h)) := by
  have hk := kn_lt hB hL hl
  have h4 := hL.2.1
  unfold f_X2_leastSkill
  refine lp_run1 10 (fun i s => s = nI i ∧ ∀ j, j < i → paB V (V 9 w) j (V 11 l) h (V 4 0) = false) _ ?_ FU 0 _ (Nat.zero_le _) ⟨rfl, fun j hj => by omega⟩ (by rw [FU_1000]; omega)
  rintro k i s hi ⟨rfl, hno⟩
  unfold b_X2_leastSkill_3
  by_cases e : i = 10
  · left
    subst e
    rw [if_pos (by decide)]
    unfold skN
    rw [fst_no hno]
    rfl
  · have hlt : i < 10 := by omega
    rw [if_neg (show ¬ (9 : Int32) < nI i from nI_nlt (b := i) (a := 9) (by omega) (by decide)), known_C hT hl, Option.bind_some, ltp_C hT hB hw hh (by omega) hk, Option.bind_some, hT.1 4 (by decide)]
    have hp := ltp_pa (V := V) (bits := V 9 w) (sk := i) (kn := V 11 l) (h := h) h4
    have hlp := ltp_le hB (bits := V 9 w) (sk := i) (kn := V 11 l) hh
    by_cases e3 : ltp V (V 9 w) i (V 11 l) h ≤ V 4 0
    · rw [if_neg (nI_nlt e3 (by omega))]
      rw [decide_eq_true e3] at hp
      left
      unfold skN
      rw [fst_at hno hp.symm hlt]
      rfl
    · rw [if_pos (nI_lt (by omega) (by omega))]
      rw [decide_eq_false e3] at hp
      refine Or.inr ⟨hlt, _, ⟨nI_1 i, fun j hj => ?_⟩, rfl⟩
      by_cases ej : j = i
      · subst ej; exact hp.symm
      · exact hno j (by omega)
/-- balls: the faults with them -/
def gb (V : Nat → Nat → Nat) (l balls h s : Nat) : Nat := fs V (V 10 l) (V 11 l) h s + if balls.testBit s then blN (V 6 s) else 0
def bpN (V : Nat → Nat → Nat) (l bits balls : Nat) : Bool := alB (fun s => !bits.testBit s || decide (gb V l balls (V 3 0) s ≤ 5)) (V 0 0) && decide (sb (gb V l balls (V 3 0)) bits (V 0 0) ≤ V 4 0)
theorem blN_le (kd : Nat) : blN kd ≤ 4 := by
  unfold blN
  repeat' split
  all_goals omega
theorem gb_le {V : Nat → Nat → Nat} (hB : WB V) {l balls h s : Nat} (hs : s < 8) (hh : h < 24) : gb V l balls h s ≤ 26 := by
  have h1 := fs_le hB (sk := V 10 l) (kn := V 11 l) hs hh
  have h2 := blN_le (V 6 s)
  unfold gb
  split <;> omega
theorem balls_C {V : Nat → Nat → Nat} {T : OS} (hT : TR V T) (hB : WB V) (hL : WL V) {l bits balls : Nat} (hl : l < 5) (hb : bits < 256) (hb2 : balls < 256) : f_X2_passesWithBalls T (nI l) (nI bits) (nI balls) = some (bI (bpN V l bits balls)) := by
  have h8 := hB.1
  have hh := hL.1
  have h4 := hL.2.1
  unfold f_X2_passesWithBalls
  refine lp_run2 (V 0 0) (fun i a s => a = nI (sb (gb V l balls (V 3 0)) bits i) ∧ s = nI i ∧ alB (fun s => !bits.testBit s || decide (gb V l balls (V 3 0) s ≤ 5)) i = true) _ ?_ FU 0 _ _ (Nat.zero_le _) ⟨rfl, rfl, rfl⟩ (by rw [FU_1000]; omega)
  rintro k i a s hi ⟨rfl, rfl, hk⟩
  unfold b_X2_passesWithBalls_6
  rw [hT.1 0 (by decide)]
  by_cases e : i = V 0 0
  · left
    subst e
    rw [if_pos (nI_le (Nat.le_refl _) (by omega))]
    unfold j_X2_passesWithBalls_90 bpN
    rw [hk, Bool.true_and, hT.1 4 (by decide)]
    have h3 := sb_le (g := gb V l balls (V 3 0)) (bits := bits) (c := 26) (n := V 0 0) (fun i hi => gb_le hB (by omega) hh)
    by_cases e : sb (gb V l balls (V 3 0)) bits (V 0 0) ≤ V 4 0
    · rw [if_neg (nI_nlt e (by omega)), decide_eq_true e]; rfl
    · rw [if_pos (nI_lt (by omega) (by omega)), decide_eq_false e]; rfl
  · have hlt : i < V 0 0 := by omega
    rw [if_neg (nI_ge hlt (by omega)), has_C (by omega) (by omega), Option.bind_some, if_bI]
    by_cases e2 : bits.testBit i = true
    · have hg := gb_le hB (l := l) (balls := balls) (by omega : i < 8) hh
      have fin : j_X2_passesWithBalls_66 T k (nI l) (nI bits) (nI balls) (nI (sb (gb V l balls (V 3 0)) bits i)) (nI i) (if balls.testBit i = true then nI (blN (V 6 i)) else 0) (nI (fs V (V 10 l) (V 11 l) (V 3 0) i)) = if gb V l balls (V 3 0) i ≤ 5 then k (nI (sb (gb V l balls (V 3 0)) bits (i + 1))) (nI (i + 1)) else some 0 := by
        unfold j_X2_passesWithBalls_66 j_X2_passesWithBalls_84
        have eg : nI (fs V (V 10 l) (V 11 l) (V 3 0) i) + (if balls.testBit i = true then nI (blN (V 6 i)) else (0 : Int32)) = nI (gb V l balls (V 3 0) i) := by
          unfold gb
          by_cases eb : balls.testBit i = true
          · rw [if_pos eb, if_pos eb, nI_add]
          · rw [if_neg eb, if_neg eb]; exact nI_add _ 0
        rw [eg, nI_add, show nI i + (1 : Int32) = nI (i + 1) from nI_1 i, sb, if_pos e2]
        by_cases e3 : gb V l balls (V 3 0) i ≤ 5
        · rw [if_pos e3, if_pos (show nI (gb V l balls (V 3 0) i) ≤ (5 : Int32) from nI_le (b := 5) e3 (by decide))]
        · rw [if_neg e3, if_neg (show ¬ nI (gb V l balls (V 3 0) i) ≤ (5 : Int32) from nI_ge (a := 5) (by omega) (by omega))]
      have body : (if balls.testBit i = true then (f_X6_ballOf T (nI i)).bind (fun x4 => j_X2_passesWithBalls_66 T k (nI l) (nI bits) (nI balls) (nI (sb (gb V l balls (V 3 0)) bits i)) (nI i) x4 (nI (fs V (V 10 l) (V 11 l) (V 3 0) i))) else j_X2_passesWithBalls_66 T k (nI l) (nI bits) (nI balls) (nI (sb (gb V l balls (V 3 0)) bits i)) (nI i) 0 (nI (fs V (V 10 l) (V 11 l) (V 3 0) i))) = if gb V l balls (V 3 0) i ≤ 5 then k (nI (sb (gb V l balls (V 3 0)) bits (i + 1))) (nI (i + 1)) else some 0 := by
        rw [← fin]
        by_cases eb : balls.testBit i = true
        · rw [if_pos eb, if_pos eb, ball_C hT hB (by omega), Option.bind_some]
        · rw [if_neg eb, if_neg eb]
      rw [if_pos e2, hT.1 3 (by decide), fin_C hT hB hL hl (by omega) hh, Option.bind_some, has_C (by omega) (by omega), Option.bind_some, if_bI, body]
      by_cases e3 : gb V l balls (V 3 0) i ≤ 5
      · rw [if_pos e3]
        exact Or.inr ⟨hlt, _, _, ⟨rfl, rfl, by rw [alB, hk, e2]; simp [e3]⟩, rfl⟩
      · rw [if_neg e3]
        left
        unfold bpN
        rw [alB_no hlt (by rw [e2]; simp; omega), Bool.false_and]
        rfl
    · rw [if_neg e2]
      unfold j_X2_passesWithBalls_84
      refine Or.inr ⟨hlt, _, _, ⟨?_, nI_1 i, by rw [alB, hk]; simp [e2]⟩, rfl⟩
      rw [sb, if_neg e2, Nat.add_zero]
theorem pow_C {b n : Nat} (hb : b < 2 ^ 31) (hn : n < 900) : f_X7_power (nI b) (nI n) = some (lN (b ^ n)) := by
  unfold f_X7_power
  refine lp_run2 n (fun i a s => a = lN (b ^ i) ∧ s = nI i) _ ?_ FU 0 _ _ (Nat.zero_le _) ⟨rfl, rfl⟩ (by rw [FU_1000]; omega)
  rintro k i a s hi ⟨rfl, rfl⟩
  unfold b_X7_power_5
  by_cases e : i = n
  · left
    subst e
    rw [if_pos (nI_le (Nat.le_refl _) (by omega))]
  · rw [if_neg (nI_ge (by omega) (by omega))]
    exact Or.inr ⟨by omega, _, _, ⟨by rw [nI_l hb, lN_mul, Nat.pow_succ], nI_1 i⟩, rfl⟩
/-- the chances of a ball: how many throws pass, each counted -/
def chN (V : Nat → Nat → Nat) (l bits t : Nat) : Nat → Nat
  | 0 => 0
  | n + 1 => chN V l bits t n + if nd n bits = 0 ∧ bpN V l bits n = true then (t - 1) ^ (pc 8 bits - pc 8 n) else 0
theorem pc_sub {a b : Nat} (h : nd a b = 0) : ∀ n, n ≤ 8 → pc n a ≤ pc n b
  | 0, _ => Nat.le_refl 0
  | n + 1, hn => by
    have h1 := pc_sub h n (by omega)
    have h2 : (nd a b).testBit n = false := by rw [h]; exact Nat.zero_testBit n
    rw [nd_bit (by omega)] at h2
    rw [pc, pc]
    cases ha : a.testBit n <;> cases hb : b.testBit n <;> simp [ha, hb] at h2 ⊢ <;> omega
theorem chance_C {V : Nat → Nat → Nat} {T : OS} (hT : TR V T) (hB : WB V) (hL : WL V) {l w t : Nat} (hl : l < 5) (hw : w < V 1 0) (ht : 2 ≤ t) (ht2 : t ≤ 20) : f_X2_chancesWithBalls T (nI l) (nI w) (nI t) = some (lN (chN V l (V 9 w) t (V 9 w + 1))) := by
  have hth := WB_th hB hw
  have h6 := hB.2.1
  unfold f_X2_chancesWithBalls
  rw [at_in (by omega : w < 6) (by decide), Option.bind_some, hT.2 9 (by decide) (by decide) w (by show w < 6; omega), bc_C _ hth, Option.bind_some]
  refine lp_run2 (V 9 w + 1) (fun i a s => a = lN (chN V l (V 9 w) t i) ∧ s = nI i) _ ?_ FU 0 _ _ (Nat.zero_le _) ⟨rfl, rfl⟩ (by rw [FU_1000]; omega)
  rintro k i a s hi ⟨rfl, rfl⟩
  unfold b_X2_chancesWithBalls_26 j_X2_chancesWithBalls_74
  by_cases e : i = V 9 w + 1
  · left
    subst e
    rw [if_pos (nI_lt (by omega) (by omega))]
  · have hlt : i ≤ V 9 w := by omega
    rw [if_neg (nI_nlt hlt (by omega)), nd_nI (by omega : i < 256), show nI i + (1 : Int32) = nI (i + 1) from nI_1 i]
    refine Or.inr ⟨by omega, ?_⟩
    by_cases e2 : nd i (V 9 w) = 0
    · have hp := pc_sub e2 8 (Nat.le_refl 8)
      have hp8 := pc_le 8 (V 9 w)
      rw [e2, if_pos (show nI 0 = 0 from rfl), balls_C hT hB hL hl hth (by omega), Option.bind_some, if_bI]
      by_cases e3 : bpN V l (V 9 w) i = true
      · rw [if_pos e3, bc_C i (by omega), Option.bind_some, show nI t - (1 : Int32) = nI (t - 1) from pk_sub (a := t) (b := 1) (by omega), pk_sub hp, pow_C (by omega) (by omega), Option.bind_some, lN_add]
        exact ⟨_, _, ⟨by rw [chN, if_pos ⟨e2, e3⟩], rfl⟩, rfl⟩
      · rw [if_neg e3]
        exact ⟨_, _, ⟨by rw [chN, if_neg (fun q => e3 q.2), Nat.add_zero], rfl⟩, rfl⟩
    · rw [if_neg (nI_ne0 (Nat.pos_of_ne_zero e2) (by have := nd_lt (b := V 9 w) (by omega : i < 256); omega))]
      exact ⟨_, _, ⟨by rw [chN, if_neg (fun q => e2 q.1), Nat.add_zero], rfl⟩, rfl⟩
/-- ways and hours that one passes -/
def pkN (V : Nat → Nat → Nat) (l kn : Nat) : Nat → Nat
  | 0 => 0
  | n + 1 => pkN V l kn n + pc 8 (wp V (V 10 l) kn n (V 4 0))
theorem wp_lt {V : Nat → Nat → Nat} (hB : WB V) {sk kn h lm : Nat} : wp V sk kn h lm < 256 := by
  have h6 := hB.2.1
  exact bs256 (by omega)
theorem pk_C {V : Nat → Nat → Nat} {T : OS} (hT : TR V T) (hB : WB V) (hL : WL V) {l kn : Nat} (hl : l < 5) (hk : kn < 256) : f_X2_passedKnowing T (nI l) (nI kn) = some (nI (pkN V l kn 24)) := by
  have h9 := (hL.2.2.2 l hl).1
  unfold f_X2_passedKnowing
  refine lp_run2 24 (fun i a s => a = nI (pkN V l kn i) ∧ s = nI i) _ ?_ FU 0 _ _ (Nat.zero_le _) ⟨rfl, rfl⟩ (by rw [FU_1000]; omega)
  rintro k i a s hi ⟨rfl, rfl⟩
  unfold b_X2_passedKnowing_5
  by_cases e : i = 24
  · left
    subst e
    rw [if_pos (by decide)]
  · have hlt : i < 24 := by omega
    rw [if_neg (show ¬ (24 : Int32) ≤ nI i from nI_ge (b := 24) hlt (by decide)), skill_C hT hl, Option.bind_some, wp_C hT hB hL hlt h9 hk, Option.bind_some, bc_C _ (wp_lt hB), Option.bind_some, nI_add]
    exact Or.inr ⟨hlt, _, _, ⟨rfl, nI_1 i⟩, rfl⟩
theorem pkN_le {V : Nat → Nat → Nat} {l kn : Nat} : ∀ n, pkN V l kn n ≤ 8 * n
  | 0 => Nat.le_refl 0
  | n + 1 => by
    have h := pkN_le (V := V) (l := l) (kn := kn) n
    have h2 := pc_le 8 (wp V (V 10 l) kn n (V 4 0))
    rw [pkN]
    omega
theorem p2_lt {V : Nat → Nat → Nat} (hB : WB V) {s : Nat} (hs : s < V 0 0) : 2 ^ s < 256 := by
  have h8 := hB.1
  exact Nat.pow_lt_pow_right (by decide) (by omega : s < 8)
theorem gain_C {V : Nat → Nat → Nat} {T : OS} (hT : TR V T) (hB : WB V) (hL : WL V) {l s : Nat} (hl : l < 5) (hs : s < V 0 0) : f_X2_gained T (nI l) (nI s) = some (nI (pkN V l (V 11 l ||| 2 ^ s) 24) - nI (pkN V l (V 11 l) 24)) := by
  have hk := kn_lt hB hL hl
  have h8 := hB.1
  unfold f_X2_gained
  rw [known_C hT hl, Option.bind_some, sh1 s (by omega), or_nI, pk_C hT hB hL hl (or8 hk (p2_lt hB hs)), Option.bind_some, pk_C hT hB hL hl hk, Option.bind_some]
def blsN (V : Nat → Nat → Nat) (l : Nat) : Option Nat := amo (gtF (fun s => pkN V l (V 11 l ||| 2 ^ s) 24)) (fun s => !(V 11 l).testBit s) (V 0 0)
theorem bless_C {V : Nat → Nat → Nat} {T : OS} (hT : TR V T) (hB : WB V) (hL : WL V) {l : Nat} (hl : l < 5) : f_X2_bestLesson T (nI l) = some (ob (-9) (blsN V l)) := by
  have hk := kn_lt hB hL hl
  have h8 := hB.1
  unfold f_X2_bestLesson
  rw [known_C hT hl, Option.bind_some]
  refine sh_max (f := fun s => pkN V l (V 11 l ||| 2 ^ s) 24) (p := fun s => !(V 11 l).testBit s) (n := V 0 0) (ex := some) (fun i hi => by have := pkN_le (V := V) (l := l) (kn := V 11 l ||| 2 ^ i) 24; omega) (by omega) ?_ ?_ ?_
  · intro k v b
    unfold b_X2_bestLesson_15
    rw [hT.1 0 (by decide), if_pos (nI_le (Nat.le_refl _) (by omega))]
  · intro k v b i hi hp
    have hp2 : (V 11 l).testBit i = true := by simpa using hp
    unfold b_X2_bestLesson_15 j_X2_bestLesson_62
    rw [hT.1 0 (by decide), if_neg (nI_ge hi (by omega)), has_C (by omega) (by omega), Option.bind_some, if_bI, hp2, if_pos rfl, show nI i + (1 : Int32) = nI (i + 1) from nI_1 i]
  · intro k v b i hi hp
    have hp2 : (V 11 l).testBit i = false := by simpa using hp
    unfold b_X2_bestLesson_15 j_X2_bestLesson_62
    rw [hT.1 0 (by decide), if_neg (nI_ge hi (by omega)), has_C (by omega) (by omega), Option.bind_some, if_bI, hp2, if_neg (by decide), sh1 i (by omega), or_nI, pk_C hT hB hL hl (or8 hk (p2_lt hB hi)), Option.bind_some, show nI i + (1 : Int32) = nI (i + 1) from nI_1 i]
theorem rem_nI {a d : Nat} (ha : a < 2 ^ 31) (h0 : 0 < d) (hd : d < 2 ^ 31) : remI (nI a) (nI d) = nI (a % d) := pk_rem ha h0 hd
theorem rem_C {a d : Nat} (ha : a < 2 ^ 31) (h0 : 0 < d) (hd : d < 2 ^ 31) : f_X7_remainder (nI a) (nI d) = some (nI (a % d)) := by
  unfold f_X7_remainder
  rw [if_pos (show (1 : Int32) ≤ nI d from nI_le (a := 1) h0 hd), if_neg (nI_ne0 h0 hd), rem_nI ha h0 hd]
/-- a career: known and passed behind i tests -/
def caK (V : Nat → Nat → Nat) (l : Nat) : Nat → Nat
  | 0 => V 11 l
  | n + 1 => caK V l n ||| V 9 (n % V 1 0)
def caP (V : Nat → Nat → Nat) (l : Nat) : Nat → Nat
  | 0 => 0
  | n + 1 => caP V l n + if paB V (V 9 (n % V 1 0)) (V 10 l) (caK V l n) (V 3 0) (V 4 0) then 1 else 0
theorem caK_lt {V : Nat → Nat → Nat} (hB : WB V) (hL : WL V) {l : Nat} (hl : l < 5) (hw : 0 < V 1 0) : ∀ n, caK V l n < 256
  | 0 => kn_lt hB hL hl
  | n + 1 => or8 (caK_lt hB hL hl hw n) (WB_th hB (Nat.mod_lt _ hw))
theorem career_C {V : Nat → Nat → Nat} {T : OS} (hT : TR V T) (hB : WB V) (hL : WL V) {l n : Nat} (hl : l < 5) (hn : n ≤ 60) : f_X2_passedInRow T (nI l) (nI n) = some (nI (if V 1 0 = 0 then 0 else caP V l n)) := by
  have hk := kn_lt hB hL hl
  have h6 := hB.2.1
  have h9 := (hL.2.2.2 l hl).1
  have h4 := hL.2.1
  unfold f_X2_passedInRow
  rw [known_C hT hl, Option.bind_some]
  refine lp_run3 n (fun i kn c s => (V 1 0 = 0 → c = 0) ∧ (0 < V 1 0 → kn = nI (caK V l i) ∧ c = nI (caP V l i)) ∧ s = nI i) _ ?_ FU 0 _ _ _ (Nat.zero_le _) ⟨fun _ => rfl, fun _ => ⟨rfl, rfl⟩, rfl⟩ (by rw [FU_1000]; omega)
  rintro k i kn c s hi ⟨hz, hc, rfl⟩
  unfold b_X2_passedInRow_12
  rw [hT.1 1 (by decide)]
  by_cases e : i = n
  · left
    subst e
    rw [if_pos (nI_le (Nat.le_refl _) (by omega))]
    by_cases e0 : V 1 0 = 0
    · rw [if_pos e0, hz e0]; rfl
    · rw [if_neg e0, (hc (by omega)).2]
  · rw [if_neg (nI_ge (by omega) (by omega))]
    by_cases e0 : V 1 0 = 0
    · left
      rw [if_pos (by rw [e0]; decide), if_pos e0, hz e0]; rfl
    · obtain ⟨rfl, rfl⟩ := hc (by omega)
      have hm : i % V 1 0 < V 1 0 := Nat.mod_lt _ (by omega)
      rw [if_neg (nI_nle (by omega) (by omega)), rem_C (by omega) (by omega) (by omega), Option.bind_some, skill_C hT hl, Option.bind_some, hT.1 3 (by decide), ltp_C hT hB hm hL.1 h9 (caK_lt hB hL hl (by omega) i), Option.bind_some, hT.1 4 (by decide)]
      unfold j_X2_passedInRow_77
      rw [at_in (by omega : i % V 1 0 < 6) (by decide)]
      simp only [Option.bind_some]
      rw [hT.2 9 (by decide) (by decide) (i % V 1 0) (by show i % V 1 0 < 6; omega), or_nI, show nI i + (1 : Int32) = nI (i + 1) from nI_1 i]
      refine Or.inr ⟨by omega, ?_⟩
      have hp := ltp_pa (V := V) (bits := V 9 (i % V 1 0)) (sk := V 10 l) (kn := caK V l i) (h := V 3 0) h4
      have hlp := ltp_le hB (bits := V 9 (i % V 1 0)) (sk := V 10 l) (kn := caK V l i) hL.1
      by_cases e3 : ltp V (V 9 (i % V 1 0)) (V 10 l) (caK V l i) (V 3 0) ≤ V 4 0
      · rw [if_neg (nI_nlt e3 (by omega))]
        rw [decide_eq_true e3] at hp
        exact ⟨_, _, _, ⟨fun q => absurd q e0, fun _ => ⟨rfl, by rw [caP, ← hp, if_pos rfl]; exact nI_1 _⟩, rfl⟩, rfl⟩
      · rw [if_pos (nI_lt (by omega) (by omega))]
        rw [decide_eq_false e3] at hp
        exact ⟨_, _, _, ⟨fun q => absurd q e0, fun _ => ⟨rfl, by rw [caP, ← hp, if_neg (by decide), Nat.add_zero]⟩, rfl⟩, rfl⟩
