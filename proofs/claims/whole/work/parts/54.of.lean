/-! PURE: what is asked of one learner, of ways: the class -/
theorem known_C {V : Nat → Nat → Nat} {T : OS} (hT : TR V T) {l : Nat} (hl : l < 5) : f_X2_knownOf T (nI l) = some (nI (V 11 l)) := by
  unfold f_X2_knownOf
  rw [at_in hl (by decide), Option.bind_some, hT.2 11 (by decide) (by decide) l hl]
theorem skill_C {V : Nat → Nat → Nat} {T : OS} (hT : TR V T) {l : Nat} (hl : l < 5) : f_X2_skillOf T (nI l) = some (nI (V 10 l)) := by
  unfold f_X2_skillOf
  rw [at_in hl (by decide), Option.bind_some, hT.2 10 (by decide) (by decide) l hl]
theorem kn_lt {V : Nat → Nat → Nat} (hB : WB V) (hL : WL V) {l : Nat} (hl : l < 5) : V 11 l < 256 := Nat.lt_of_lt_of_le (hL.2.2.2 l hl).2 (p2_8 hB.1)
/-- the street with most faults -/
def wsN (V : Nat → Nat → Nat) (l w h : Nat) : Option Nat := amo (gtF (fs V (V 10 l) (V 11 l) h)) (fun s => (V 9 w).testBit s) (V 0 0)
theorem worst_C {V : Nat → Nat → Nat} {T : OS} (hT : TR V T) (hB : WB V) (hL : WL V) {l w h : Nat} (hl : l < 5) (hw : w < V 1 0) (hh : h < 24) : f_X2_worstStreet T (nI l) (nI w) (nI h) = some (ob 0 (wsN V l w h)) := by
  have hth := WB_th hB hw
  have h8 := hB.1
  have h6 := hB.2.1
  unfold f_X2_worstStreet
  rw [at_in (by omega : w < 6) (by decide), Option.bind_some, hT.2 9 (by decide) (by decide) w (by show w < 6; omega)]
  refine sh_max (f := fs V (V 10 l) (V 11 l) h) (p := fun s => (V 9 w).testBit s) (n := V 0 0) (ex := some) (fun i hi => by have := fs_le hB (sk := V 10 l) (kn := V 11 l) (by omega : i < 8) hh; omega) (by omega) ?_ ?_ ?_
  · intro k v b
    unfold b_X2_worstStreet_22
    rw [hT.1 0 (by decide), if_pos (nI_le (Nat.le_refl _) (by omega))]
  · intro k v b i hi hp
    unfold b_X2_worstStreet_22
    rw [hT.1 0 (by decide), if_neg (nI_ge hi (by omega)), has_C (by omega) (by omega), Option.bind_some, if_bI, hp, if_neg (by decide)]
    unfold j_X2_worstStreet_72
    rw [show nI i + (1 : Int32) = nI (i + 1) from nI_1 i]
  · intro k v b i hi hp
    unfold b_X2_worstStreet_22
    rw [hT.1 0 (by decide), if_neg (nI_ge hi (by omega)), has_C (by omega) (by omega), Option.bind_some, if_bI, hp, if_pos rfl, fin_C hT hB hL hl (by omega) hh, Option.bind_some]
    unfold j_X2_worstStreet_72
    rw [show nI i + (1 : Int32) = nI (i + 1) from nI_1 i]
/-- the hour with fewest faults -/
def bhN (V : Nat → Nat → Nat) (l w : Nat) : Option Nat := amo (ltF (fun h => fo V (V 9 w) (V 10 l) (V 11 l) h)) (fun _ => true) 24
theorem bhour_C {V : Nat → Nat → Nat} {T : OS} (hT : TR V T) (hB : WB V) (hL : WL V) {l w : Nat} (hl : l < 5) (hw : w < V 1 0) : f_X2_hourOfFewest T (nI l) (nI w) = some (ob 0 (bhN V l w)) := by
  unfold f_X2_hourOfFewest
  refine sh_min (lo := 0) (f := fun h => fo V (V 9 w) (V 10 l) (V 11 l) h) (p := fun _ => true) (n := 24) (ex := some) (fun i hi => by have := fo_le hB (bits := V 9 w) (sk := V 10 l) (kn := V 11 l) hi; omega) (fun i hi => by omega) (by decide) (by decide) ?_ ?_ ?_
  · intro k v b
    unfold b_X2_hourOfFewest_10
    rw [if_pos (show (24 : Int32) ≤ nI 24 by decide)]
  · intro k v b i hl hi hp
    exact absurd hp (by decide)
  · intro k v b i _ hi hp
    unfold b_X2_hourOfFewest_10
    rw [if_neg (show ¬ (24 : Int32) ≤ nI i from nI_ge (b := 24) hi (by decide)), fo_C hT hB hL hl hw hi, Option.bind_some]
    unfold j_X2_hourOfFewest_43
    rw [show nI i + (1 : Int32) = nI (i + 1) from nI_1 i]
/-- the hours at which one passes -/
def hpN (V : Nat → Nat → Nat) (l w : Nat) : Nat := bs (fun h => paB V (V 9 w) (V 10 l) (V 11 l) h (V 4 0)) 24
theorem hours_C {V : Nat → Nat → Nat} {T : OS} (hT : TR V T) (hB : WB V) (hL : WL V) {l w : Nat} (hl : l < 5) (hw : w < V 1 0) : f_X2_hoursPassed T (nI l) (nI w) = some (nI (hpN V l w)) := by
  unfold f_X2_hoursPassed
  refine lp_run2 24 (fun i a s => a = nI (bs (fun h => paB V (V 9 w) (V 10 l) (V 11 l) h (V 4 0)) i) ∧ s = nI i) _ ?_ FU 0 _ _ (Nat.zero_le _) ⟨rfl, rfl⟩ (by rw [FU_1000]; omega)
  rintro k i a s hi ⟨rfl, rfl⟩
  unfold b_X2_hoursPassed_5
  by_cases e : i = 24
  · left
    subst e
    rw [if_pos (by decide)]
    rfl
  · have hlt : i < 24 := by omega
    rw [if_neg (show ¬ (24 : Int32) ≤ nI i from nI_ge (b := 24) hlt (by decide)), pa_C hT hB hL hl hw hlt, Option.bind_some, if_bI]
    by_cases e2 : paB V (V 9 w) (V 10 l) (V 11 l) i (V 4 0) = true
    · rw [if_pos e2]
      refine Or.inr ⟨hlt, _, _, ⟨?_, nI_1 i⟩, rfl⟩
      rw [bs, if_pos e2, sh1 i (by omega)]; exact or_nI _ _
    · rw [if_neg e2]
      refine Or.inr ⟨hlt, _, _, ⟨?_, nI_1 i⟩, rfl⟩
      rw [bs, if_neg e2, Nat.or_zero]
/-- the way with fewest faults -/
def ewN (V : Nat → Nat → Nat) (l h : Nat) : Option Nat := amo (ltF (fun w => fo V (V 9 w) (V 10 l) (V 11 l) h)) (fun _ => true) (V 1 0)
theorem easy_C {V : Nat → Nat → Nat} {T : OS} (hT : TR V T) (hB : WB V) (hL : WL V) {l h : Nat} (hl : l < 5) (hh : h < 24) : f_X2_wayOfFewest T (nI l) (nI h) = some (ob (-9) (ewN V l h)) := by
  have h6 := hB.2.1
  unfold f_X2_wayOfFewest
  refine sh_min (lo := 0) (f := fun w => fo V (V 9 w) (V 10 l) (V 11 l) h) (p := fun _ => true) (n := V 1 0) (ex := some) (fun i hi => by have := fo_le hB (bits := V 9 i) (sk := V 10 l) (kn := V 11 l) hh; omega) (fun i hi => by omega) (Nat.zero_le _) (by omega) ?_ ?_ ?_
  · intro k v b
    unfold b_X2_wayOfFewest_11
    rw [hT.1 1 (by decide), if_pos (nI_le (Nat.le_refl _) (by omega))]
  · intro k v b i _ hi hp
    exact absurd hp (by decide)
  · intro k v b i _ hi hp
    unfold b_X2_wayOfFewest_11
    rw [hT.1 1 (by decide), if_neg (nI_ge hi (by omega)), fo_C hT hB hL hl hi hh, Option.bind_some]
    unfold j_X2_wayOfFewest_49
    rw [show nI i + (1 : Int32) = nI (i + 1) from nI_1 i]
/-- who knows the bits kn passes each way of a set -/
def psN (V : Nat → Nat → Nat) (set sk kn h : Nat) : Bool := alB (fun w => !set.testBit w || paB V (V 9 w) sk kn h (V 4 0)) (V 1 0)
theorem pall_C {V : Nat → Nat → Nat} {T : OS} (hT : TR V T) (hB : WB V) (hL : WL V) {l set kn h : Nat} (hl : l < 5) (hs : set < 2 ^ 31) (hk : kn < 256) (hh : h < 24) : f_X2_passesAll T (nI l) (nI set) (nI kn) (nI h) = some (bI (psN V set (V 10 l) kn h)) := by
  have h6 := hB.2.1
  have h9 := (hL.2.2.2 l hl).1
  have h4 := hL.2.1
  unfold f_X2_passesAll
  refine lp_run1 (V 1 0) (fun i s => s = nI i ∧ alB (fun w => !set.testBit w || paB V (V 9 w) (V 10 l) kn h (V 4 0)) i = true) _ ?_ FU 0 _ (Nat.zero_le _) ⟨rfl, rfl⟩ (by rw [FU_1000]; omega)
  rintro k i s hi ⟨rfl, ha⟩
  unfold b_X2_passesAll_3
  rw [hT.1 1 (by decide)]
  by_cases e : i = V 1 0
  · left
    subst e
    rw [if_pos (nI_le (Nat.le_refl _) (by omega))]
    unfold psN
    rw [ha]
    rfl
  · have hlt : i < V 1 0 := by omega
    rw [if_neg (nI_ge hlt (by omega)), has_C hs (by omega), Option.bind_some, if_bI]
    by_cases e2 : set.testBit i = true
    · rw [if_pos e2, skill_C hT hl, Option.bind_some, ltp_C hT hB hlt hh h9 hk, Option.bind_some, hT.1 4 (by decide)]
      have hp := ltp_pa (V := V) (bits := V 9 i) (sk := V 10 l) (kn := kn) (h := h) h4
      have hlp := ltp_le hB (bits := V 9 i) (sk := V 10 l) (kn := kn) hh
      by_cases e3 : ltp V (V 9 i) (V 10 l) kn h ≤ V 4 0
      · rw [if_pos (nI_le e3 (by omega))]
        rw [decide_eq_true e3] at hp
        exact Or.inr ⟨hlt, _, ⟨nI_1 i, by rw [alB, ha, ← hp]; simp⟩, rfl⟩
      · rw [if_neg (nI_ge (by omega) (by omega))]
        rw [decide_eq_false e3] at hp
        left
        unfold psN
        rw [alB_no hlt (by rw [e2, ← hp]; rfl)]
        rfl
    · rw [if_neg e2]
      exact Or.inr ⟨hlt, _, ⟨nI_1 i, by rw [alB, ha]; simp [e2]⟩, rfl⟩
theorem alls_C {V : Nat → Nat → Nat} {T : OS} (hT : TR V T) (hB : WB V) : f_X6_allStreets T = some (nI (2 ^ V 0 0 - 1)) := by
  have h8 := hB.1
  unfold f_X6_allStreets
  rw [hT.1 0 (by decide), sh1 _ (by omega), show (1 : Int32) = nI 1 from rfl, pk_sub (Nat.two_pow_pos _)]
theorem allw_C {V : Nat → Nat → Nat} {T : OS} (hT : TR V T) (hB : WB V) : f_X6_allWays T = some (nI (2 ^ V 1 0 - 1)) := by
  have h6 := hB.2.1
  unfold f_X6_allWays
  rw [hT.1 1 (by decide), sh1 _ (by omega), show (1 : Int32) = nI 1 from rfl, pk_sub (Nat.two_pow_pos _)]
theorem or8 {a b : Nat} (ha : a < 256) (hb : b < 256) : a ||| b < 256 := Nat.or_lt_two_pow (n := 8) ha hb
theorem and8 {a b : Nat} (ha : a < 256) : a &&& b < 256 := Nat.lt_of_le_of_lt Nat.and_le_left ha
/-- learning: the fewest more streets -/
def lnN (V : Nat → Nat → Nat) (l set h : Nat) : Option Nat := amo (ltF (pc 8)) (fun m => decide (m &&& V 11 l = 0) && psN V set (V 10 l) (V 11 l ||| m) h) (2 ^ V 0 0)
theorem learn_C {V : Nat → Nat → Nat} {T : OS} (hT : TR V T) (hB : WB V) (hL : WL V) {l set h : Nat} (hl : l < 5) (hs : set < 2 ^ 31) (hh : h < 24) : f_X2_toLearn T (nI l) (nI set) (nI h) = some (ob (-9) (lnN V l set h)) := by
  have hk := kn_lt hB hL hl
  have h8 := p2_8 hB.1
  have hp0 := Nat.two_pow_pos (V 0 0)
  unfold f_X2_toLearn
  rw [known_C hT hl, Option.bind_some]
  refine sh_min (lo := 0) (f := pc 8) (p := fun m => decide (m &&& V 11 l = 0) && psN V set (V 10 l) (V 11 l ||| m) h) (n := 2 ^ V 0 0) (ex := some) (fun i hi => by have := pc_le 8 i; omega) (fun i hi => by omega) (Nat.zero_le _) (by omega) ?_ ?_ ?_
  · intro k v b
    unfold b_X2_toLearn_19
    rw [alls_C hT hB, Option.bind_some, if_pos (nI_lt (by omega) (by omega))]
  · intro k v b i _ hi hp
    unfold b_X2_toLearn_19 j_X2_toLearn_76
    rw [alls_C hT hB, Option.bind_some, if_neg (nI_nlt (by omega) (by omega)), bc_C i (by omega), Option.bind_some, and_nI]
    rw [show nI i + (1 : Int32) = nI (i + 1) from nI_1 i]
    by_cases e : i &&& V 11 l = 0
    · rw [e, if_pos (show nI 0 = 0 from rfl), or_nI]
      by_cases e3 : v ≤ nI (pc 8 i)
      · rw [if_pos e3]
      · rw [if_neg e3, pall_C hT hB hL hl hs (or8 hk (by omega)) hh, Option.bind_some, if_bI]
        have hq : psN V set (V 10 l) (V 11 l ||| i) h = false := by simpa [e] using hp
        rw [hq, if_neg (by decide)]
    · rw [if_neg (nI_ne0 (Nat.pos_of_ne_zero e) (by have := and8 (b := V 11 l) (by omega : i < 256); omega))]
  · intro k v b i _ hi hp
    unfold b_X2_toLearn_19 j_X2_toLearn_76
    rw [alls_C hT hB, Option.bind_some, if_neg (nI_nlt (by omega) (by omega)), bc_C i (by omega), Option.bind_some, and_nI]
    rw [show nI i + (1 : Int32) = nI (i + 1) from nI_1 i]
    rw [Bool.and_eq_true] at hp
    have e : i &&& V 11 l = 0 := of_decide_eq_true hp.1
    rw [e, if_pos (show nI 0 = 0 from rfl), or_nI]
    by_cases e3 : v ≤ nI (pc 8 i)
    · rw [if_pos e3, if_pos e3]
    · rw [if_neg e3, if_neg e3, pall_C hT hB hL hl hs (or8 hk (by omega)) hh, Option.bind_some, if_bI, hp.2, if_pos rfl]
