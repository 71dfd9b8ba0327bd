/-- the queue, whole: the learners still to come behind k -/
def lfN (V : Nat → Nat → Nat) (w : Nat) : Nat → Nat
  | 0 => 2 ^ V 2 0 - 1
  | k + 1 => nd (lfN V w k) (2 ^ ((nxN V w (lfN V w k)).getD 0))
theorem pc_nd {a l : Nat} (e : a.testBit l = true) : ∀ n, n ≤ 8 → pc n (nd a (2 ^ l)) + (if l < n then 1 else 0) = pc n a
  | 0, _ => by rw [pc, pc, if_neg (Nat.not_lt_zero l)]
  | n + 1, h => by
    have ih := pc_nd e n (by omega)
    have hb := nd_bit (a := a) (b := 2 ^ l) (i := n) (by omega)
    rw [pc, pc, hb]
    by_cases en : l = n
    · subst en
      rw [if_neg (Nat.lt_irrefl l)] at ih
      rw [Nat.testBit_two_pow_self, e, if_pos (show l < l + 1 by omega)]
      simp
      omega
    · rw [Nat.testBit_two_pow_of_ne en]
      by_cases hl : l < n
      · rw [if_pos hl] at ih
        rw [if_pos (show l < n + 1 by omega)]
        cases a.testBit n <;> simp <;> omega
      · rw [if_neg hl] at ih
        rw [if_neg (show ¬ l < n + 1 by omega)]
        cases a.testBit n <;> simp <;> omega
theorem pc_full : ∀ n, n ≤ 5 → pc 8 (2 ^ n - 1) = n := by decide
theorem pc_bit {a : Nat} : ∀ {n : Nat}, 0 < pc n a → ∃ l, l < n ∧ a.testBit l = true
  | n + 1, h => by
    by_cases e : a.testBit n = true
    · exact ⟨n, by omega, e⟩
    · rw [pc, if_neg e] at h
      obtain ⟨l, h1, h2⟩ := pc_bit (n := n) (by omega)
      exact ⟨l, by omega, h2⟩
theorem lf_ok {V : Nat → Nat → Nat} (hB : WB V) {w : Nat} : ∀ k, k ≤ V 2 0 → lfN V w k < 2 ^ V 2 0 ∧ pc 8 (lfN V w k) = V 2 0 - k
  | 0, _ => by
    have h5 := hB.2.2.1
    have hp := Nat.two_pow_pos (V 2 0)
    exact ⟨by rw [lfN]; omega, by rw [lfN, pc_full _ h5]; omega⟩
  | k + 1, h => by
    have h5 := hB.2.2.1
    obtain ⟨h1, h2⟩ := lf_ok hB (w := w) k (by omega)
    obtain ⟨l, hl, hbit⟩ := pc_bit (a := lfN V w k) (n := 8) (by omega)
    have hl2 : l < V 2 0 := by
      rcases Nat.lt_or_ge l (V 2 0) with q | q
      · exact q
      · exfalso
        rw [Nat.testBit_lt_two_pow (Nat.lt_of_lt_of_le h1 (Nat.pow_le_pow_right (by decide) q))] at hbit
        exact absurd hbit (by decide)
    obtain ⟨l2, e1, e2, e3⟩ := nx_some (V := V) (w := w) h1 ⟨l, hl2, hbit⟩
    rw [lfN, e1]
    show nd _ (2 ^ l2) < _ ∧ _
    refine ⟨Nat.lt_of_le_of_lt Nat.and_le_left h1, ?_⟩
    have := pc_nd e3 8 (Nat.le_refl 8)
    rw [if_pos (by omega)] at this
    show pc 8 (nd (lfN V w k) (2 ^ l2)) = _
    omega
theorem lf_nx {V : Nat → Nat → Nat} (hB : WB V) {w k : Nat} (hk : k < V 2 0) : ∃ l, nxN V w (lfN V w k) = some l ∧ l < V 2 0 ∧ (lfN V w k).testBit l = true := by
  have h5 := hB.2.2.1
  obtain ⟨h1, h2⟩ := lf_ok hB (w := w) k (by omega)
  obtain ⟨l, hl, hbit⟩ := pc_bit (a := lfN V w k) (n := 8) (by omega)
  refine nx_some h1 ⟨l, ?_, hbit⟩
  rcases Nat.lt_or_ge l (V 2 0) with q | q
  · exact q
  · exfalso
    rw [Nat.testBit_lt_two_pow (Nat.lt_of_lt_of_le h1 (Nat.pow_le_pow_right (by decide) q))] at hbit
    exact absurd hbit (by decide)
/-- the queue's answer: i is -1, or a place -/
def quA (V : Nat → Nat → Nat) (w : Nat) (i : Int32) : Int32 := if i < 0 then nI (qT V w (2 ^ V 2 0) (2 ^ V 2 0 - 1)) else if i < nI (V 2 0) then ob 0 (nxN V w (lfN V w i.toNatClampNeg)) else -9
theorem queue_C {V : Nat → Nat → Nat} {S T : OS} (hT : TR V T) (hB : WB V) (hL : WL V) {w : Nat} {i : Int32} (hw : w < V 1 0) : ∃ S', f_X1_queued S T (nI w) i = some (quA V w i, S') := by
  have h5 := hB.2.2.1
  have h25 := p25 hB
  have hp := Nat.two_pow_pos (V 2 0)
  obtain ⟨S', e1, hF⟩ := find_C (S := S) hT hB hL hw
  refine ⟨S', ?_⟩
  unfold f_X1_queued
  rw [e1, Option.bind_some, hT.1 2 (by decide), sh1 _ (by omega), show nI (2 ^ V 2 0) - (1 : Int32) = nI (2 ^ V 2 0 - 1) from pk_sub (a := 2 ^ V 2 0) (b := 1) hp]
  unfold quA
  by_cases h0 : i < 0
  · rw [if_neg (fun q => Int32.lt_irrefl (Int32.lt_of_lt_of_le h0 q)), if_pos h0, at_in (by omega : 2 ^ V 2 0 - 1 < 32) (by decide), Option.bind_some, hF _ (by omega)]
  · have h1 : 0 ≤ i := Int32.not_lt.mp h0
    rw [if_pos h1, if_neg h0]
    refine lp_run2 (V 2 0) (fun k a s => a = nI (lfN V w k) ∧ s = nI k ∧ (i < nI (V 2 0) → k ≤ i.toNatClampNeg)) _ ?_ FU 0 _ _ (Nat.zero_le _) ⟨rfl, rfl, fun _ => Nat.zero_le _⟩ (by rw [FU_1000]; omega)
    rintro kk k a s hk ⟨rfl, rfl, hle⟩
    unfold b_X1_queued_33
    rw [hT.1 2 (by decide)]
    by_cases e : k = V 2 0
    · left
      subst e
      rw [if_pos (nI_le (Nat.le_refl _) (by omega)), if_neg]
      intro q
      have h2 := hle q
      obtain ⟨j, hj, rfl⟩ := nI_of h0
      rw [nI_clamp hj] at h2
      exact absurd q (nI_nlt h2 hj)
    · have hlt : k < V 2 0 := by omega
      obtain ⟨g1, g2⟩ := lf_ok hB (w := w) k (by omega)
      obtain ⟨l, hn, hl1, hl2⟩ := lf_nx hB (w := w) hlt
      rw [if_neg (nI_ge hlt (by omega)), next_C hT hB hL hw g1 (by omega) hF, Option.bind_some]
      by_cases e2 : nI k = i
      · left
        subst e2
        rw [if_pos rfl, if_pos (nI_lt hlt (by omega)), nI_clamp (by omega)]
      · rw [if_neg e2, hn]
        refine Or.inr ⟨hlt, _, _, ⟨?_, nI_1 k, fun q => ?_⟩, rfl⟩
        · show nI (lfN V w k) &&& ((1 <<< (nI l &&& 31)) ^^^ (-1)) = _
          rw [sh1 l (by omega), nd_nI (by omega), lfN, hn]
          rfl
        · have h2 := hle q
          obtain ⟨j, hj, rfl⟩ := nI_of h0
          rw [nI_clamp hj] at h2 ⊢
          have : ¬ k = j := fun q => e2 (congrArg nI q)
          omega
/-- rank: how many stand ahead -/
def foH (V : Nat → Nat → Nat) (w l : Nat) : Nat := fo V (V 9 w) (V 10 l) (V 11 l) (V 3 0)
def ahN (V : Nat → Nat → Nat) (w l : Nat) : Nat := cnB (fun k => decide (foH V w k < foH V w l) || (decide (foH V w k = foH V w l) && decide (k < l))) (V 2 0)
theorem ahead_C {V : Nat → Nat → Nat} {S T : OS} (hT : TR V T) (hB : WB V) (hL : WL V) {w l : Nat} (hw : w < V 1 0) (hl : l < V 2 0) : f_X1_aheadOf S T (nI l) (nI w) = some (nI (ahN V w l)) := by
  have h5 := hB.2.2.1
  have hh := hL.1
  have fle := fun l => fo_le hB (bits := V 9 w) (sk := V 10 l) (kn := V 11 l) hh
  unfold f_X1_aheadOf
  rw [hT.1 3 (by decide), fo_C hT hB hL (by omega) hw hh, Option.bind_some]
  refine lp_run2 (V 2 0) (fun i a s => a = nI (cnB (fun k => decide (foH V w k < foH V w l) || (decide (foH V w k = foH V w l) && decide (k < l))) i) ∧ s = nI i) _ ?_ FU 0 _ _ (Nat.zero_le _) ⟨rfl, rfl⟩ (by rw [FU_1000]; omega)
  rintro k i a s hi ⟨rfl, rfl⟩
  unfold b_X1_aheadOf_23 j_X1_aheadOf_72 j_X1_aheadOf_75
  rw [hT.1 2 (by decide)]
  by_cases e : i = V 2 0
  · left
    subst e
    rw [if_pos (nI_le (Nat.le_refl _) (by omega))]
    rfl
  · have hlt : i < V 2 0 := by omega
    have f1 : foH V w i ≤ 176 := fle i
    have f2 : foH V w l ≤ 176 := fle l
    rw [if_neg (nI_ge hlt (by omega)), hT.1 3 (by decide), fo_C hT hB hL (by omega) hw hh, Option.bind_some, show fo V (V 9 w) (V 10 i) (V 11 i) (V 3 0) = foH V w i from rfl, show fo V (V 9 w) (V 10 l) (V 11 l) (V 3 0) = foH V w l from rfl, show nI i + (1 : Int32) = nI (i + 1) from nI_1 i]
    refine Or.inr ⟨hlt, ?_⟩
    by_cases c1 : foH V w i < foH V w l
    · rw [if_pos (nI_lt c1 (by omega))]
      exact ⟨_, _, ⟨by rw [cnB]; simp [c1]; exact nI_1 _, rfl⟩, rfl⟩
    · rw [if_neg (nI_nlt (by omega) (by omega))]
      by_cases c2 : foH V w i = foH V w l
      · rw [if_pos (congrArg nI c2)]
        by_cases c3 : i < l
        · rw [if_neg (nI_ge c3 (by omega))]
          exact ⟨_, _, ⟨by rw [cnB]; simp [c2, c3]; exact nI_1 _, rfl⟩, rfl⟩
        · rw [if_pos (nI_le (by omega) (by omega))]
          exact ⟨_, _, ⟨by rw [cnB]; simp [c2, c3], rfl⟩, rfl⟩
      · rw [if_neg (fun q => c2 ((nI_eq (by omega) (by omega)).mp q))]
        exact ⟨_, _, ⟨by rw [cnB]; simp [c1, c2], rfl⟩, rfl⟩
def rkN (V : Nat → Nat → Nat) (w : Nat) (i : Int32) : Option Nat := fst (fun l => decide (nI (ahN V w l) = i)) (V 2 0)
theorem rank_C {V : Nat → Nat → Nat} {S T : OS} (hT : TR V T) (hB : WB V) (hL : WL V) {w : Nat} {i : Int32} (hw : w < V 1 0) : f_X1_ranked S T (nI w) i = some (ob (-9) (rkN V w i)) := by
  have h5 := hB.2.2.1
  unfold f_X1_ranked
  refine lp_run1 (V 2 0) (fun k s => s = nI k ∧ ∀ j, j < k → decide (nI (ahN V w j) = i) = false) _ ?_ FU 0 _ (Nat.zero_le _) ⟨rfl, fun j hj => by omega⟩ (by rw [FU_1000]; omega)
  rintro kk k s hk ⟨rfl, hno⟩
  unfold b_X1_ranked_2
  rw [hT.1 2 (by decide)]
  by_cases e : k = V 2 0
  · left
    subst e
    rw [if_pos (nI_le (Nat.le_refl _) (by omega))]
    unfold rkN
    rw [fst_no hno]
    rfl
  · have hlt : k < V 2 0 := by omega
    rw [if_neg (nI_ge hlt (by omega)), ahead_C hT hB hL hw hlt, Option.bind_some]
    by_cases e2 : nI (ahN V w k) = i
    · left
      rw [if_pos e2]
      unfold rkN
      rw [fst_at hno (decide_eq_true e2) hlt]
      rfl
    · rw [if_neg e2]
      refine Or.inr ⟨hlt, _, ⟨nI_1 k, fun j hj => ?_⟩, rfl⟩
      by_cases ej : j = k
      · subst ej; exact decide_eq_false e2
      · exact hno j (by omega)
/-- the most that a limit must be -/
def llI (V : Nat → Nat → Nat) (l m : Nat) : Nat → Nat
  | 0 => m
  | n + 1 => max (llI V l m n) (ltp V (V 9 n) (V 10 l) (V 11 l) (V 3 0))
def llO (V : Nat → Nat → Nat) : Nat → Nat
  | 0 => 0
  | n + 1 => llI V n (llO V n) (V 1 0)
theorem llI_le {V : Nat → Nat → Nat} (hB : WB V) (hL : WL V) {l m : Nat} (hm : m ≤ 1000) : ∀ n, llI V l m n ≤ 1000
  | 0 => hm
  | n + 1 => by
    have h1 := llI_le hB hL (l := l) hm n
    have h2 := ltp_le hB (bits := V 9 n) (sk := V 10 l) (kn := V 11 l) hL.1
    rw [llI]
    omega
theorem llO_le {V : Nat → Nat → Nat} (hB : WB V) (hL : WL V) : ∀ n, llO V n ≤ 1000
  | 0 => Nat.zero_le _
  | n + 1 => llI_le hB hL (llO_le hB hL n) _
def lwA (V : Nat → Nat → Nat) : Int32 := if llO V (V 2 0) ≤ 99 then nI (llO V (V 2 0)) else -9
theorem lw_C {V : Nat → Nat → Nat} {S T : OS} (hT : TR V T) (hB : WB V) (hL : WL V) : f_X1_leastLimit S T = some (lwA V) := by
  have h5 := hB.2.2.1
  have h6 := hB.2.1
  unfold f_X1_leastLimit
  refine lp_run2 (V 2 0) (fun i a s => a = nI (llO V i) ∧ s = nI i) _ ?_ FU 0 _ _ (Nat.zero_le _) ⟨rfl, rfl⟩ (by rw [FU_1000]; omega)
  rintro k i a s hi ⟨rfl, rfl⟩
  have h1 := llO_le hB hL i
  unfold b_X1_leastLimit_4
  rw [hT.1 2 (by decide)]
  by_cases e : i = V 2 0
  · left
    subst e
    rw [if_pos (nI_le (Nat.le_refl _) (by omega))]
    unfold j_X1_leastLimit_91 lwA
    by_cases e2 : llO V (V 2 0) ≤ 99
    · rw [if_pos e2, if_pos (show nI _ ≤ (99 : Int32) from nI_le (b := 99) e2 (by decide))]
    · rw [if_neg e2, if_neg (show ¬ nI _ ≤ (99 : Int32) from nI_ge (a := 99) (by omega) (by omega))]
  · have hlt : i < V 2 0 := by omega
    have hk := kn_lt hB hL (by omega : i < 5)
    have h9 := (hL.2.2.2 i (by omega)).1
    rw [if_neg (nI_ge hlt (by omega)), at_in (by omega : i < 5) (by decide), Option.bind_some, at_in (by omega : i < 5) (by decide), Option.bind_some, hT.2 10 (by decide) (by decide) i (by show i < 5; omega), hT.2 11 (by decide) (by decide) i (by show i < 5; omega)]
    refine Or.inr ⟨hlt, _, _, ⟨rfl, nI_1 i⟩, ?_⟩
    refine lp_run2 (V 1 0) (fun m a s => a = nI (llI V i (llO V i) m) ∧ s = nI m) _ ?_ FU 0 _ _ (Nat.zero_le _) ⟨rfl, rfl⟩ (by rw [FU_1000]; omega)
    rintro k2 m a s hm ⟨rfl, rfl⟩
    have h2 := llI_le hB hL (l := i) h1 m
    unfold b_X1_leastLimit_43 j_X1_leastLimit_85
    rw [hT.1 1 (by decide)]
    by_cases e2 : m = V 1 0
    · left
      subst e2
      rw [if_pos (nI_le (Nat.le_refl _) (by omega))]
      rfl
    · have hlt2 : m < V 1 0 := by omega
      have h3 := ltp_le hB (bits := V 9 m) (sk := V 10 i) (kn := V 11 i) hL.1
      rw [if_neg (nI_ge hlt2 (by omega)), hT.1 3 (by decide), ltp_C hT hB hlt2 hL.1 h9 hk, Option.bind_some, max_nI (by omega) (by omega)]
      exact Or.inr ⟨hlt2, _, _, ⟨rfl, nI_1 m⟩, rfl⟩
def mpN (V : Nat → Nat → Nat) (w h : Nat) : Nat := cnB (fun l => paB V (V 9 w) (V 10 l) (V 11 l) h (V 4 0)) (V 2 0)
theorem many_C {V : Nat → Nat → Nat} {S T : OS} (hT : TR V T) (hB : WB V) (hL : WL V) {w h : Nat} (hw : w < V 1 0) (hh : h < 24) : f_X1_passersAt S T (nI w) (nI h) = some (nI (mpN V w h)) := by
  have h5 := hB.2.2.1
  unfold f_X1_passersAt
  refine lp_run2 (V 2 0) (fun i a s => a = nI (cnB (fun l => paB V (V 9 w) (V 10 l) (V 11 l) h (V 4 0)) i) ∧ s = nI i) _ ?_ FU 0 _ _ (Nat.zero_le _) ⟨rfl, rfl⟩ (by rw [FU_1000]; omega)
  rintro k i a s hi ⟨rfl, rfl⟩
  unfold b_X1_passersAt_5 j_X1_passersAt_34
  rw [hT.1 2 (by decide)]
  by_cases e : i = V 2 0
  · left
    subst e
    rw [if_pos (nI_le (Nat.le_refl _) (by omega))]
    rfl
  · have hlt : i < V 2 0 := by omega
    rw [if_neg (nI_ge hlt (by omega)), pa_C hT hB hL (by omega) hw hh, Option.bind_some, if_bI, show nI i + (1 : Int32) = nI (i + 1) from nI_1 i]
    refine Or.inr ⟨hlt, ?_⟩
    by_cases e2 : paB V (V 9 w) (V 10 i) (V 11 i) h (V 4 0) = true
    · rw [if_pos e2]
      exact ⟨_, _, ⟨by rw [cnB, if_pos e2]; exact nI_1 _, rfl⟩, rfl⟩
    · rw [if_neg e2]
      exact ⟨_, _, ⟨by rw [cnB, if_neg e2, Nat.add_zero], rfl⟩, rfl⟩
def rhN (V : Nat → Nat → Nat) (w : Nat) : Option Nat := amo (gtF (mpN V w)) (fun _ => true) 24
theorem mpN_le {V : Nat → Nat → Nat} (hB : WB V) {w h : Nat} : mpN V w h ≤ 5 := Nat.le_trans (cnB_le _) hB.2.2.1
theorem rush_C {V : Nat → Nat → Nat} {S T : OS} (hT : TR V T) (hB : WB V) (hL : WL V) {w : Nat} (hw : w < V 1 0) : f_X1_hourOfMost S T (nI w) = some (ob 0 (rhN V w)) := by
  unfold f_X1_hourOfMost
  refine sh_max (f := mpN V w) (p := fun _ => true) (n := 24) (ex := some) (fun i hi => by have := mpN_le hB (w := w) (h := i); omega) (by decide) ?_ (fun _ _ _ _ _ hp => absurd hp (by decide)) ?_
  · intro k v b
    unfold b_X1_hourOfMost_7
    rw [if_pos (show (24 : Int32) ≤ nI 24 by decide)]
  · intro k v b i hi hp
    unfold b_X1_hourOfMost_7 j_X1_hourOfMost_35
    rw [if_neg (show ¬ (24 : Int32) ≤ nI i from nI_ge (b := 24) hi (by decide)), many_C hT hB hL hw hi, Option.bind_some, show nI i + (1 : Int32) = nI (i + 1) from nI_1 i]
def wlN (V : Nat → Nat → Nat) (l : Nat) : Nat := wp V (V 10 l) (V 11 l) (V 3 0) (V 4 0)
theorem ways_C {V : Nat → Nat → Nat} {S T : OS} (hT : TR V T) (hB : WB V) (hL : WL V) {l : Nat} (hl : l < 5) : f_X1_waysOf S T (nI l) = some (nI (wlN V l)) := by
  unfold f_X1_waysOf
  rw [at_in hl (by decide), Option.bind_some, at_in hl (by decide), Option.bind_some, hT.2 10 (by decide) (by decide) l hl, hT.2 11 (by decide) (by decide) l hl, hT.1 3 (by decide), wp_C hT hB hL hL.1 (hL.2.2.2 l hl).1 (kn_lt hB hL hl), Option.bind_some]
  rfl
def eqI (V : Nat → Nat → Nat) (a m : Nat) : Nat → Nat
  | 0 => m
  | n + 1 => eqI V a m n + if wlN V a = wlN V (a + 1 + n) then 1 else 0
def eqO (V : Nat → Nat → Nat) : Nat → Nat
  | 0 => 0
  | n + 1 => eqI V n (eqO V n) (V 2 0 - (n + 1))
theorem equal_C {V : Nat → Nat → Nat} {S T : OS} (hT : TR V T) (hB : WB V) (hL : WL V) : f_X1_twosAlike S T = some (nI (eqO V (V 2 0))) := by
  have h5 := hB.2.2.1
  unfold f_X1_twosAlike
  refine lp_run2 (V 2 0) (fun i a s => a = nI (eqO V i) ∧ s = nI i) _ ?_ FU 0 _ _ (Nat.zero_le _) ⟨rfl, rfl⟩ (by rw [FU_1000]; omega)
  rintro k a m s hi ⟨rfl, rfl⟩
  unfold b_X1_twosAlike_4
  rw [hT.1 2 (by decide)]
  by_cases e : a = V 2 0
  · left
    subst e
    rw [if_pos (nI_le (Nat.le_refl _) (by omega))]
  · have hlt : a < V 2 0 := by omega
    rw [if_neg (nI_ge hlt (by omega)), ways_C hT hB hL (by omega), Option.bind_some, show nI a + (1 : Int32) = nI (a + 1) from nI_1 a]
    refine Or.inr ⟨hlt, _, _, ⟨rfl, rfl⟩, ?_⟩
    refine lp_run2 (V 2 0 - (a + 1)) (fun i m s => m = nI (eqI V a (eqO V a) i) ∧ s = nI (a + 1 + i)) _ ?_ FU 0 _ _ (Nat.zero_le _) ⟨rfl, rfl⟩ (by rw [FU_1000]; omega)
    rintro k2 i m s hi2 ⟨rfl, rfl⟩
    unfold b_X1_twosAlike_26 j_X1_twosAlike_57 j_X1_twosAlike_51
    rw [hT.1 2 (by decide)]
    by_cases e2 : i = V 2 0 - (a + 1)
    · left
      subst e2
      rw [if_pos (nI_le (by omega) (by omega)), show nI a + (1 : Int32) = nI (a + 1) from nI_1 a]
      rfl
    · have hb : a + 1 + i < V 2 0 := by omega
      have w1 := wp_lt hB (sk := V 10 a) (kn := V 11 a) (h := V 3 0) (lm := V 4 0)
      have w2 := wp_lt hB (sk := V 10 (a + 1 + i)) (kn := V 11 (a + 1 + i)) (h := V 3 0) (lm := V 4 0)
      rw [if_neg (nI_ge hb (by omega)), ways_C hT hB hL (by omega), Option.bind_some, show nI (a + 1 + i) + (1 : Int32) = nI (a + 1 + (i + 1)) from nI_1 _]
      refine Or.inr ⟨by omega, ?_⟩
      by_cases e3 : wlN V a = wlN V (a + 1 + i)
      · rw [if_pos (congrArg nI e3)]
        exact ⟨_, _, ⟨by rw [eqI, if_pos e3]; exact nI_1 _, rfl⟩, rfl⟩
      · rw [if_neg (fun q => e3 ((nI_eq (by unfold wlN; omega) (by unfold wlN; omega)).mp q))]
        exact ⟨_, _, ⟨by rw [eqI, if_neg e3, Nat.add_zero], rfl⟩, rfl⟩
