/-! PURE: days by lot, and the row: the class -/
def zN (z : Int32) : Int32 := z * 1103515245 + 12345
def qz (z : Int32) : Nat := z.toBitVec.toNat % 2 ^ 31 / 65536
theorem qz_lt (z : Int32) : qz z < 32768 := by
  have h : z.toBitVec.toNat % 2 ^ 31 < 2 ^ 31 := Nat.mod_lt _ (by decide)
  unfold qz
  omega
theorem z_and (z : Int32) : z &&& (2147483647 : Int32) = nI (z.toBitVec.toNat % 2 ^ 31) := pk_and z 31 (by decide)
theorem below_C {z : Int32} {n : Nat} (h0 : 0 < n) (hn : n < 2 ^ 31) : f_X1_below z (nI n) = some (nI (qz z % n)) := by
  have h : z.toBitVec.toNat % 2 ^ 31 < 2 ^ 31 := Nat.mod_lt _ (by decide)
  have hq := qz_lt z
  unfold f_X1_below
  rw [z_and, pk_shrN h _ 16 (by decide), show z.toBitVec.toNat % 2 ^ 31 / 2 ^ 16 = qz z from rfl, rem_C (by omega) h0 hn, Option.bind_some]
/-- lots: z, passed, faults behind k tests -/
def ltZ (z : Int32) : Nat → Int32
  | 0 => z
  | k + 1 => zN (zN (ltZ z k))
def ltP (V : Nat → Nat → Nat) (z : Int32) : Nat → Nat
  | 0 => 0
  | k + 1 => ltP V z k + if paB V (V 9 (qz (zN (zN (ltZ z k))) % V 1 0)) (V 10 (k % V 2 0)) (V 11 (k % V 2 0)) (qz (zN (ltZ z k)) % 24) (V 4 0) then 1 else 0
def ltF2 (V : Nat → Nat → Nat) (z : Int32) : Nat → Nat
  | 0 => 0
  | k + 1 => ltF2 V z k + fo V (V 9 (qz (zN (zN (ltZ z k))) % V 1 0)) (V 10 (k % V 2 0)) (V 11 (k % V 2 0)) (qz (zN (ltZ z k)) % 24)
def lotA (V : Nat → Nat → Nat) (n : Nat) (z what : Int32) : Int32 := if V 1 0 = 0 then 0 else if what = 0 then nI (ltP V z (n * V 2 0)) else nI (ltF2 V z (n * V 2 0))
theorem lots_C {V : Nat → Nat → Nat} {S T : OS} (hT : TR V T) (hB : WB V) (hL : WL V) {n : Nat} {z what : Int32} (hn : n ≤ 20) : f_X1_byLot S T (nI n) z what = some (lotA V n z what) := by
  have h5 := hB.2.2.1
  have h6 := hB.2.1
  have hm : n * V 2 0 ≤ 100 := Nat.mul_le_mul hn h5
  unfold f_X1_byLot
  refine lp_run4 (n * V 2 0) (fun k zz p f s => (V 1 0 = 0 → p = 0 ∧ f = 0) ∧ (0 < V 1 0 → zz = ltZ z k ∧ p = nI (ltP V z k) ∧ f = nI (ltF2 V z k)) ∧ s = nI k) _ ?_ FU 0 _ _ _ _ (Nat.zero_le _) ⟨fun _ => ⟨rfl, rfl⟩, fun _ => ⟨rfl, rfl, rfl⟩, rfl⟩ (by rw [FU_1000]; omega)
  rintro kk k zz p f s hk ⟨hz, hp, rfl⟩
  unfold b_X1_byLot_12
  rw [hT.1 2 (by decide), hT.1 1 (by decide), pk_mul]
  by_cases e : k = n * V 2 0
  · left
    subst e
    rw [if_pos (nI_le (Nat.le_refl _) (by omega))]
    unfold j_X1_byLot_137 lotA
    by_cases e0 : V 1 0 = 0
    · obtain ⟨rfl, rfl⟩ := hz e0
      rw [if_pos e0]
      split <;> rfl
    · obtain ⟨-, rfl, rfl⟩ := hp (by omega)
      rw [if_neg e0]
      split <;> rfl
  · have hlt : k < n * V 2 0 := by omega
    rw [if_neg (nI_ge hlt (by omega))]
    by_cases e0 : V 1 0 = 0
    · left
      obtain ⟨rfl, rfl⟩ := hz e0
      rw [if_pos (by rw [e0]; decide)]
      unfold j_X1_byLot_137 lotA
      rw [if_pos e0]
      split <;> rfl
    · obtain ⟨rfl, rfl, rfl⟩ := hp (by omega)
      have hnl : 0 < V 2 0 := by
        rcases Nat.eq_zero_or_pos (V 2 0) with q | q
        · rw [q, Nat.mul_zero] at hlt; omega
        · exact q
      have hl : k % V 2 0 < V 2 0 := Nat.mod_lt _ hnl
      have hw := Nat.mod_lt (qz (zN (zN (ltZ z k)))) (by omega : 0 < V 1 0)
      have hh := Nat.mod_lt (qz (zN (ltZ z k))) (by decide : 0 < 24)
      rw [if_neg (nI_nle (by omega) (by omega)), rem_C (by omega) hnl (by omega), Option.bind_some]
      have d1 : ∀ y : Int32, f_X1_drawn y = some (zN y) := fun y => rfl
      rw [d1, Option.bind_some, show (24 : Int32) = nI 24 from rfl, below_C (by decide) (by decide), Option.bind_some, d1, Option.bind_some, below_C (by omega) (by omega), Option.bind_some, pa_C hT hB hL (by omega) hw hh, Option.bind_some, if_bI]
      unfold j_X1_byLot_110
      rw [fo_C hT hB hL (by omega) hw hh]
      simp only [Option.bind_some]
      rw [show nI k + (1 : Int32) = nI (k + 1) from nI_1 k]
      refine Or.inr ⟨hlt, ?_⟩
      by_cases e3 : paB V (V 9 (qz (zN (zN (ltZ z k))) % V 1 0)) (V 10 (k % V 2 0)) (V 11 (k % V 2 0)) (qz (zN (ltZ z k)) % 24) (V 4 0) = true
      · rw [if_pos e3]
        exact ⟨_, _, _, _, ⟨fun q => absurd q e0, fun _ => ⟨rfl, by rw [ltP, if_pos e3]; exact nI_1 _, by rw [ltF2]; exact nI_add _ _⟩, rfl⟩, rfl⟩
      · rw [if_neg e3]
        exact ⟨_, _, _, _, ⟨fun q => absurd q e0, fun _ => ⟨rfl, by rw [ltP, if_neg e3]; exact nI_add _ 0, by rw [ltF2]; exact nI_add _ _⟩, rfl⟩, rfl⟩
/-- the row: n numbers R -/
def RW (R : Nat → Nat) (n : Nat) (F : Nat → Int32) : Prop := n ≤ 12 ∧ ∀ k, k < n → F k = nI (R k) ∧ R k ≤ 99
def twB (V : Nat → Nat → Nat) (R : Nat → Nat) (n : Nat) : Bool := decide (n ≤ V 2 0) && alB (fun k => decide (R k ≤ 2)) n
theorem tells_C {V : Nat → Nat → Nat} {R : Nat → Nat} {n : Nat} {S T : OS} (hT : TR V T) (hB : WB V) (hS : S.1 0 = nI n) (hR : RW R n (S.2 1)) : f_X5_tellsWhoPassed S T = some (bI (twB V R n)) := by
  have h5 := hB.2.2.1
  have h12 := hR.1
  unfold f_X5_tellsWhoPassed twB
  rw [hS, hT.1 2 (by decide)]
  by_cases e : n ≤ V 2 0
  · rw [if_pos (nI_le e (by omega)), decide_eq_true e, Bool.true_and]
    refine lp_run1 n (fun i s => s = nI i ∧ alB (fun k => decide (R k ≤ 2)) i = true) _ ?_ FU 0 _ (Nat.zero_le _) ⟨rfl, rfl⟩ (by rw [FU_1000]; omega)
    rintro k i s hi ⟨rfl, ha⟩
    unfold b_X5_tellsWhoPassed_18
    rw [hS]
    by_cases e1 : i = n
    · left
      subst e1
      rw [if_pos (nI_le (Nat.le_refl _) (by omega)), ha]
      rfl
    · have hlt : i < n := by omega
      obtain ⟨g1, g2⟩ := hR.2 i hlt
      rw [if_neg (nI_ge hlt (by omega)), at_in (by omega : i < 12) (by decide), Option.bind_some, g1]
      by_cases e2 : R i ≤ 2
      · rw [if_pos (show nI (R i) ≤ (2 : Int32) from nI_le (b := 2) e2 (by decide))]
        exact Or.inr ⟨hlt, _, ⟨nI_1 i, by rw [alB, ha]; simp [e2]⟩, rfl⟩
      · rw [if_neg (show ¬ nI (R i) ≤ (2 : Int32) from nI_ge (a := 2) (by omega) (by omega))]
        left
        rw [alB_no hlt (by simp; omega)]
        rfl
  · rw [if_neg (nI_ge (by omega) (by omega)), decide_eq_false e]
    rfl
/-- the least and the greatest limit by which it is so (the greatest and one) -/
def loL (V : Nat → Nat → Nat) (R : Nat → Nat) (w : Nat) : Nat → Nat
  | 0 => 0
  | n + 1 => if R n = 1 then max (loL V R w n) (ltp V (V 9 w) (V 10 n) (V 11 n) (V 3 0)) else loL V R w n
def hiL (V : Nat → Nat → Nat) (R : Nat → Nat) (w : Nat) : Nat → Nat
  | 0 => 100
  | n + 1 => if R n = 0 then min (hiL V R w n) (ltp V (V 9 w) (V 10 n) (V 11 n) (V 3 0)) else hiL V R w n
theorem loL_le {V : Nat → Nat → Nat} {R : Nat → Nat} {w : Nat} (hB : WB V) (hL : WL V) : ∀ n, loL V R w n ≤ 1000
  | 0 => Nat.zero_le _
  | n + 1 => by
    have h1 := loL_le (R := R) (w := w) hB hL n
    have h2 := ltp_le hB (bits := V 9 w) (sk := V 10 n) (kn := V 11 n) hL.1
    rw [loL]
    split <;> omega
theorem hiL_le {V : Nat → Nat → Nat} {R : Nat → Nat} {w : Nat} : ∀ n, hiL V R w n ≤ 100
  | 0 => Nat.le_refl _
  | n + 1 => by
    have h1 := hiL_le (V := V) (R := R) (w := w) n
    rw [hiL]
    split <;> omega
theorem limof_C {V : Nat → Nat → Nat} {S T : OS} (hT : TR V T) (hB : WB V) (hL : WL V) {l w h : Nat} (hl : l < 5) (hw : w < V 1 0) (hh : h < 24) : f_X5_limitOf S T (nI l) (nI w) (nI h) = some (nI (ltp V (V 9 w) (V 10 l) (V 11 l) h)) := by
  unfold f_X5_limitOf
  rw [at_in hl (by decide), Option.bind_some, at_in hl (by decide), Option.bind_some, hT.2 10 (by decide) (by decide) l hl, hT.2 11 (by decide) (by decide) l hl, ltp_C hT hB hw hh (hL.2.2.2 l hl).1 (kn_lt hB hL hl), Option.bind_some]
theorem low_C {V : Nat → Nat → Nat} {R : Nat → Nat} {n : Nat} {S T : OS} (hT : TR V T) (hB : WB V) (hL : WL V) (hS : S.1 0 = nI n) (hR : RW R n (S.2 1)) (hn : n ≤ V 2 0) {w : Nat} (hw : w < V 1 0) : f_X5_lowestLimit S T (nI w) = some (nI (loL V R w n)) := by
  have h5 := hB.2.2.1
  unfold f_X5_lowestLimit
  refine lp_run2 n (fun i a s => a = nI (loL V R w i) ∧ s = nI i) _ ?_ FU 0 _ _ (Nat.zero_le _) ⟨rfl, rfl⟩ (by rw [FU_1000]; omega)
  rintro k i a s hi ⟨rfl, rfl⟩
  unfold b_X5_lowestLimit_4 j_X5_lowestLimit_42
  rw [hS]
  by_cases e1 : i = n
  · left
    subst e1
    rw [if_pos (nI_le (Nat.le_refl _) (by omega))]
  · have hlt : i < n := by omega
    obtain ⟨g1, g2⟩ := hR.2 i hlt
    have h1 := loL_le (R := R) (w := w) hB hL i
    have h2 := ltp_le hB (bits := V 9 w) (sk := V 10 i) (kn := V 11 i) hL.1
    rw [if_neg (nI_ge hlt (by omega)), at_in (by omega : i < 12) (by decide), Option.bind_some, g1, hT.1 3 (by decide), limof_C hT hB hL (by omega) hw hL.1, Option.bind_some, max_nI (by omega) (by omega), show nI i + (1 : Int32) = nI (i + 1) from nI_1 i]
    refine Or.inr ⟨hlt, ?_⟩
    by_cases e2 : R i = 1
    · rw [if_pos (show nI (R i) = (1 : Int32) by rw [e2]; rfl)]
      exact ⟨_, _, ⟨by rw [loL, if_pos e2], rfl⟩, rfl⟩
    · rw [if_neg (fun q : nI (R i) = (1 : Int32) => e2 ((nI_eq (b := 1) (by omega) (by decide)).mp q))]
      exact ⟨_, _, ⟨by rw [loL, if_neg e2], rfl⟩, rfl⟩
theorem m1_add (a : Nat) : nI (a + 1) - (1 : Int32) = nI a := nI_pred a
theorem minm {a b : Nat} (ha : a ≤ 2000) (hb : b ≤ 2000) : minI (nI a - 1) (nI b - 1) = nI (min a b) - 1 := by
  have hlt : ∀ x y : Nat, x ≤ 2000 → y ≤ 2000 → (nI x - 1 < nI y - 1 ↔ x < y) := by
    intro x y hx hy
    rw [Int32.lt_iff_toInt_lt, show (1 : Int32) = nI 1 from rfl, pk_sub_toInt (by omega) (by decide), pk_sub_toInt (by omega) (by decide)]
    omega
  unfold minI
  by_cases h : b < a
  · rw [if_pos ((hlt b a hb ha).mpr h), Nat.min_eq_right (by omega)]
  · rw [if_neg (fun q => h ((hlt b a hb ha).mp q)), Nat.min_eq_left (by omega)]
theorem high_C {V : Nat → Nat → Nat} {R : Nat → Nat} {n : Nat} {S T : OS} (hT : TR V T) (hB : WB V) (hL : WL V) (hS : S.1 0 = nI n) (hR : RW R n (S.2 1)) (hn : n ≤ V 2 0) (h2 : ∀ k, k < n → R k ≤ 2) {w : Nat} (hw : w < V 1 0) : f_X5_highestLimit S T (nI w) = some (nI (hiL V R w n) - 1) := by
  have h5 := hB.2.2.1
  unfold f_X5_highestLimit
  refine lp_run2 n (fun i a s => a = nI (hiL V R w i) - 1 ∧ s = nI i) _ ?_ FU 0 _ _ (Nat.zero_le _) ⟨by rw [show hiL V R w 0 = 99 + 1 from rfl, m1_add]; rfl, rfl⟩ (by rw [FU_1000]; omega)
  rintro k i a s hi ⟨rfl, rfl⟩
  unfold b_X5_highestLimit_5 j_X5_highestLimit_57
  rw [hS]
  by_cases e1 : i = n
  · left
    subst e1
    rw [if_pos (nI_le (Nat.le_refl _) (by omega))]
  · have hlt : i < n := by omega
    obtain ⟨g1, g2⟩ := hR.2 i hlt
    have h3 := h2 i hlt
    have h1 := hiL_le (V := V) (R := R) (w := w) i
    have h4 := ltp_le hB (bits := V 9 w) (sk := V 10 i) (kn := V 11 i) hL.1
    rw [if_neg (nI_ge hlt (by omega)), at_in (by omega : i < 12) (by decide), Option.bind_some, Option.bind_some, g1, hT.1 3 (by decide), limof_C hT hB hL (by omega) hw hL.1, Option.bind_some, minm (by omega) (by omega), show nI i + (1 : Int32) = nI (i + 1) from nI_1 i]
    refine Or.inr ⟨hlt, ?_⟩
    by_cases c1 : R i = 1
    · rw [if_pos (show nI (R i) = (1 : Int32) by rw [c1]; rfl)]
      exact ⟨_, _, ⟨by rw [hiL, if_neg (by omega)], rfl⟩, rfl⟩
    · rw [if_neg (fun q : nI (R i) = (1 : Int32) => c1 ((nI_eq (b := 1) (by omega) (by decide)).mp q))]
      by_cases c2 : R i = 2
      · rw [if_pos (show nI (R i) = (2 : Int32) by rw [c2]; rfl)]
        exact ⟨_, _, ⟨by rw [hiL, if_neg (by omega)], rfl⟩, rfl⟩
      · rw [if_neg (fun q : nI (R i) = (2 : Int32) => c2 ((nI_eq (b := 2) (by omega) (by decide)).mp q))]
        exact ⟨_, _, ⟨by rw [hiL, if_pos (by omega)], rfl⟩, rfl⟩
def limN (V : Nat → Nat → Nat) (R : Nat → Nat) (w n : Nat) : Nat := hiL V R w n - loL V R w n
theorem ring1 (a b : Int32) : a - 1 - b + 1 = a - b := by grind
theorem lims_C {V : Nat → Nat → Nat} {R : Nat → Nat} {n : Nat} {S T : OS} (hT : TR V T) (hB : WB V) (hL : WL V) (hS : S.1 0 = nI n) (hR : RW R n (S.2 1)) (hn : n ≤ V 2 0) (h2 : ∀ k, k < n → R k ≤ 2) {w : Nat} (hw : w < V 1 0) : f_X5_limitsSo S T (nI w) = some (nI (limN V R w n)) := by
  have h1 := loL_le (R := R) (w := w) hB hL n
  have h3 := hiL_le (V := V) (R := R) (w := w) n
  unfold f_X5_limitsSo
  rw [high_C hT hB hL hS hR hn h2 hw, Option.bind_some, low_C hT hB hL hS hR hn hw, Option.bind_some, ring1, max0_sub (by omega) (by omega)]
  rfl
def leaA (V : Nat → Nat → Nat) (R : Nat → Nat) (w n : Nat) : Int32 := if 0 < limN V R w n then nI (loL V R w n) else -9
theorem lea_C {V : Nat → Nat → Nat} {R : Nat → Nat} {n : Nat} {S T : OS} (hT : TR V T) (hB : WB V) (hL : WL V) (hS : S.1 0 = nI n) (hR : RW R n (S.2 1)) (hn : n ≤ V 2 0) (h2 : ∀ k, k < n → R k ≤ 2) {w : Nat} (hw : w < V 1 0) : f_X5_leastLimitSo S T (nI w) = some (leaA V R w n) := by
  have h3 := hiL_le (V := V) (R := R) (w := w) n
  have h4 : limN V R w n ≤ 100 := by unfold limN; omega
  unfold f_X5_leastLimitSo leaA
  rw [lims_C hT hB hL hS hR hn h2 hw, Option.bind_some, low_C hT hB hL hS hR hn hw, Option.bind_some]
  by_cases e : 0 < limN V R w n
  · rw [if_neg (nI_nle e (by omega)), if_pos e]
  · rw [if_pos (show nI _ ≤ (0 : Int32) from nI_le (b := 0) (by omega) (by decide)), if_neg e]
/-- it is so at an hour (with the limit lm) -/
def soB (V : Nat → Nat → Nat) (R : Nat → Nat) (w h lm n : Nat) : Bool := alB (fun l => decide (R l = 2) || (decide (R l = 1) == paB V (V 9 w) (V 10 l) (V 11 l) h lm)) n
theorem so_C {V : Nat → Nat → Nat} {R : Nat → Nat} {n : Nat} {S T : OS} (hT : TR V T) (hB : WB V) (hL : WL V) (hS : S.1 0 = nI n) (hR : RW R n (S.2 1)) (hn : n ≤ V 2 0) (h2 : ∀ k, k < n → R k ≤ 2) {w h : Nat} (hw : w < V 1 0) (hh : h < 24) : f_X5_isSoAt S T (nI w) (nI h) = some (bI (soB V R w h (V 4 0) n)) := by
  have h5 := hB.2.2.1
  unfold f_X5_isSoAt
  refine lp_run1 n (fun i s => s = nI i ∧ soB V R w h (V 4 0) i = true) _ ?_ FU 0 _ (Nat.zero_le _) ⟨rfl, rfl⟩ (by rw [FU_1000]; omega)
  rintro k i s hi ⟨rfl, ha⟩
  unfold b_X5_isSoAt_2 j_X5_isSoAt_37 j_X5_isSoAt_52
  rw [hS]
  by_cases e1 : i = n
  · left
    subst e1
    rw [if_pos (nI_le (Nat.le_refl _) (by omega)), ha]
    rfl
  · have hlt : i < n := by omega
    obtain ⟨g1, g2⟩ := hR.2 i hlt
    have h3 := h2 i hlt
    rw [if_neg (nI_ge hlt (by omega)), at_in (by omega : i < 12) (by decide), Option.bind_some, g1, pa_C hT hB hL (by omega) hw hh]
    simp only [Option.bind_some]
    rw [show nI i + (1 : Int32) = nI (i + 1) from nI_1 i]
    have no : (decide (R i = 2) || (decide (R i = 1) == paB V (V 9 w) (V 10 i) (V 11 i) h (V 4 0))) = false → some (0 : Int32) = some (bI (soB V R w h (V 4 0) n)) := fun q => by
      unfold soB
      rw [alB_no hlt q]
      rfl
    have yes : (decide (R i = 2) || (decide (R i = 1) == paB V (V 9 w) (V 10 i) (V 11 i) h (V 4 0))) = true → soB V R w h (V 4 0) (i + 1) = true := fun q => by
      unfold soB at ha ⊢
      rw [alB, ha, q]
      rfl
    by_cases c2 : R i = 2
    · rw [if_pos (show nI (R i) = (2 : Int32) by rw [c2]; rfl)]
      exact Or.inr ⟨hlt, _, ⟨rfl, yes (by simp [c2])⟩, rfl⟩
    · rw [if_neg (fun q : nI (R i) = (2 : Int32) => c2 ((nI_eq (b := 2) (by omega) (by decide)).mp q))]
      by_cases c1 : R i = 1
      · rw [if_pos (show nI (R i) = (1 : Int32) by rw [c1]; rfl)]
        cases hq : paB V (V 9 w) (V 10 i) (V 11 i) h (V 4 0) with
        | true =>
          rw [if_pos (by decide)]
          exact Or.inr ⟨hlt, _, ⟨rfl, yes (by rw [hq]; simp [c1])⟩, rfl⟩
        | false =>
          rw [if_neg (by decide)]
          exact Or.inl (no (by rw [hq]; simp [c1]))
      · rw [if_neg (fun q : nI (R i) = (1 : Int32) => c1 ((nI_eq (b := 1) (by omega) (by decide)).mp q))]
        cases hq : paB V (V 9 w) (V 10 i) (V 11 i) h (V 4 0) with
        | true =>
          rw [if_neg (by decide)]
          exact Or.inl (no (by rw [hq]; simp [c1, c2]))
        | false =>
          rw [if_pos (by decide)]
          exact Or.inr ⟨hlt, _, ⟨rfl, yes (by rw [hq]; simp [c1])⟩, rfl⟩
def whN (V : Nat → Nat → Nat) (R : Nat → Nat) (w n : Nat) : Nat := bs (fun h => soB V R w h (V 4 0) n) 24
theorem when_C {V : Nat → Nat → Nat} {R : Nat → Nat} {n : Nat} {S T : OS} (hT : TR V T) (hB : WB V) (hL : WL V) (hS : S.1 0 = nI n) (hR : RW R n (S.2 1)) (hn : n ≤ V 2 0) (h2 : ∀ k, k < n → R k ≤ 2) {w : Nat} (hw : w < V 1 0) : f_X5_hoursSo S T (nI w) = some (nI (whN V R w n)) := by
  unfold f_X5_hoursSo
  refine lp_run2 24 (fun i a s => a = nI (bs (fun h => soB V R w h (V 4 0) n) i) ∧ s = nI i) _ ?_ FU 0 _ _ (Nat.zero_le _) ⟨rfl, rfl⟩ (by rw [FU_1000]; omega)
  rintro k i a s hi ⟨rfl, rfl⟩
  unfold b_X5_hoursSo_4 j_X5_hoursSo_25
  by_cases e : i = 24
  · left
    subst e
    rw [if_pos (by decide)]
    rfl
  · have hlt : i < 24 := by omega
    rw [if_neg (show ¬ (24 : Int32) ≤ nI i from nI_ge (b := 24) hlt (by decide)), so_C hT hB hL hS hR hn h2 hw hlt, Option.bind_some, if_bI, show nI i + (1 : Int32) = nI (i + 1) from nI_1 i]
    refine Or.inr ⟨hlt, ?_⟩
    by_cases e2 : soB V R w i (V 4 0) n = true
    · rw [if_pos e2, sh1 i (by omega), or_nI]
      exact ⟨_, _, ⟨by rw [bs, if_pos e2], rfl⟩, rfl⟩
    · rw [if_neg e2]
      exact ⟨_, _, ⟨by rw [bs, if_neg e2, Nat.or_zero], rfl⟩, rfl⟩
/-- judged: the first that isn't so -/
def juN (V : Nat → Nat → Nat) (R : Nat → Nat) (l n : Nat) : Option Nat := fst (fun i => decide (V 0 0 ≤ i) || !decide (fs V (V 10 l) (V 11 l) (V 3 0) i = R i)) n
theorem judge_C {V : Nat → Nat → Nat} {R : Nat → Nat} {n : Nat} {S T : OS} (hT : TR V T) (hB : WB V) (hL : WL V) (hS : S.1 0 = nI n) (hR : RW R n (S.2 1)) {l : Nat} (hl : l < 5) : f_X5_firstNotSo S T (nI l) = some (ob (-9) (juN V R l n)) := by
  have h8 := hB.1
  have h12 := hR.1
  unfold f_X5_firstNotSo
  refine lp_run1 n (fun i s => s = nI i ∧ ∀ j, j < i → (decide (V 0 0 ≤ j) || !decide (fs V (V 10 l) (V 11 l) (V 3 0) j = R j)) = false) _ ?_ FU 0 _ (Nat.zero_le _) ⟨rfl, fun j hj => by omega⟩ (by rw [FU_1000]; omega)
  rintro k i s hi ⟨rfl, hno⟩
  unfold b_X5_firstNotSo_2 f_X6_hasStreet
  rw [hS]
  by_cases e1 : i = n
  · left
    subst e1
    rw [if_pos (nI_le (Nat.le_refl _) (by omega))]
    unfold juN
    rw [fst_no hno]
    rfl
  · have hlt : i < n := by omega
    obtain ⟨g1, g2⟩ := hR.2 i hlt
    rw [if_neg (nI_ge hlt (by omega)), if_neg (nI_pos (by omega)), hT.1 0 (by decide)]
    by_cases c1 : V 0 0 ≤ i
    · rw [if_pos (nI_le c1 (by omega)), Option.bind_some, if_pos rfl]
      left
      unfold juN
      rw [fst_at hno (by simp [c1]) hlt]
      rfl
    · have hf := fs_le hB (sk := V 10 l) (kn := V 11 l) (by omega : i < 8) hL.1
      rw [if_neg (nI_ge (by omega) (by omega)), Option.bind_some, if_neg (by decide), hT.1 3 (by decide), fin_C hT hB hL hl (by omega) hL.1, Option.bind_some, at_in (by omega : i < 12) (by decide), Option.bind_some, g1]
      by_cases c2 : fs V (V 10 l) (V 11 l) (V 3 0) i = R i
      · rw [if_pos (congrArg nI c2)]
        refine Or.inr ⟨hlt, _, ⟨nI_1 i, fun j hj => ?_⟩, rfl⟩
        by_cases ej : j = i
        · subst ej; simp [c2]; omega
        · exact hno j (by omega)
      · rw [if_neg (fun q => c2 ((nI_eq (by omega) (by omega)).mp q))]
        left
        unfold juN
        rw [fst_at hno (by simp [c2]) hlt]
        rfl
