/-! PURE: the town's numbers, and what each side's town functions answer -/
def lnT (i : Nat) : Nat := if i ≤ 8 then 8 else if i = 9 then 6 else 5
/-- the class's town T, and the reference S, hold the numbers V -/
def TR (V : Nat → Nat → Nat) (T : OS) : Prop := (∀ i, i < 6 → T.1 i = nI (V i 0)) ∧ ∀ i, 6 ≤ i → i < 12 → ∀ k, k < lnT i → T.2 i k = nI (V i k)
def MR (V : Nat → Nat → Nat) (S : OS) : Prop := (∀ i, i < 6 → S.1 (i + 7) = nI (V i 0)) ∧ ∀ i, 6 ≤ i → i < 12 → ∀ k, k < lnT i → S.2 (i - 5) k = nI (V i k)
/-- the numbers of streets, kinds, figures, minutes, ways: as they must be -/
def WB (V : Nat → Nat → Nat) : Prop := V 0 0 ≤ 8 ∧ V 1 0 ≤ 6 ∧ V 2 0 ≤ 5 ∧ (∀ s, s < 8 → V 6 s ≤ 5 ∧ V 7 s ≤ 9 ∧ V 8 s ≤ 9) ∧ (∀ w, w < V 1 0 → 1 ≤ V 9 w ∧ V 9 w < 2 ^ V 0 0)
def WL (V : Nat → Nat → Nat) : Prop := V 3 0 < 24 ∧ V 4 0 ≤ 99 ∧ V 5 0 ≤ 999 ∧ ∀ l, l < 5 → V 10 l ≤ 9 ∧ V 11 l < 2 ^ V 0 0
theorem p2_8 {n : Nat} (h : n ≤ 8) : 2 ^ n ≤ 256 := Nat.pow_le_pow_right (by decide) h
theorem WB_th {V : Nat → Nat → Nat} (h : WB V) {w : Nat} (hw : w < V 1 0) : V 9 w < 256 := Nat.lt_of_lt_of_le (h.2.2.2.2 w hw).2 (p2_8 h.1)
/-! the town's rules in numbers -/
def rgN (h : Nat) : Nat := if 15 ≤ h ∧ h ≤ 17 then 3 else 1
def hdN (kd fg h : Nat) : Nat := if kd = 1 then fg + 2 else if kd = 2 then fg + rgN h else if kd = 3 then (if h = 8 ∨ h = 15 then 2 * (fg + 2) else fg + 2) else if kd = 4 then fg / 2 else if kd = 5 then fg + rgN h + 1 else fg
def hd (V : Nat → Nat → Nat) (s h : Nat) : Nat := hdN (V 6 s) (V 7 s) h
def blN (kd : Nat) : Nat := if kd = 2 then 3 else if kd = 3 then 4 else if kd = 4 then 0 else if kd = 5 then 3 else 1
def fq (x sk : Nat) (b : Bool) : Nat := if b then (x - sk) / 2 else x - sk
def fs (V : Nat → Nat → Nat) (sk kn h s : Nat) : Nat := fq (hd V s h) sk (kn.testBit s)
def fo (V : Nat → Nat → Nat) (bits sk kn h : Nat) : Nat := sb (fs V sk kn h) bits (V 0 0)
def okB (V : Nat → Nat → Nat) (bits sk kn h : Nat) : Bool := alB (fun s => !bits.testBit s || decide (fs V sk kn h s ≤ 5)) (V 0 0)
def ltp (V : Nat → Nat → Nat) (bits sk kn h : Nat) : Nat := if okB V bits sk kn h then fo V bits sk kn h else 1000
def paB (V : Nat → Nat → Nat) (bits sk kn h lm : Nat) : Bool := okB V bits sk kn h && decide (fo V bits sk kn h ≤ lm)
theorem hdN_le : ∀ kd, kd < 6 → ∀ fg, fg < 10 → ∀ h, h < 24 → hdN kd fg h ≤ 22 := by decide +kernel
theorem hd_le {V : Nat → Nat → Nat} (hB : WB V) {s h : Nat} (hs : s < 8) (hh : h < 24) : hd V s h ≤ 22 := by
  obtain ⟨h1, h2, -⟩ := hB.2.2.2.1 s hs
  exact hdN_le _ (by omega) _ (by omega) _ hh
theorem fq_le (x sk : Nat) (b : Bool) : fq x sk b ≤ x := by
  unfold fq
  split
  · exact Nat.le_trans (Nat.div_le_self _ _) (Nat.sub_le _ _)
  · exact Nat.sub_le _ _
theorem fs_le {V : Nat → Nat → Nat} (hB : WB V) {s h sk kn : Nat} (hs : s < 8) (hh : h < 24) : fs V sk kn h s ≤ 22 := Nat.le_trans (fq_le _ _ _) (hd_le hB hs hh)
theorem fo_le {V : Nat → Nat → Nat} (hB : WB V) {bits sk kn h : Nat} (hh : h < 24) : fo V bits sk kn h ≤ 176 := by
  have h1 := sb_le (g := fs V sk kn h) (bits := bits) (c := 22) (n := V 0 0) (fun i hi => fs_le hB (by have := hB.1; omega) hh)
  have h2 := hB.1
  unfold fo
  omega
theorem sb_le22 {V : Nat → Nat → Nat} (hB : WB V) {bits sk kn h n : Nat} (hh : h < 24) (hn : n ≤ V 0 0) : sb (fs V sk kn h) bits n ≤ 176 := by
  have h1 := sb_le (g := fs V sk kn h) (bits := bits) (c := 22) (n := n) (fun i hi => fs_le hB (by have := hB.1; omega) hh)
  have h2 := hB.1
  omega
theorem ltp_le {V : Nat → Nat → Nat} (hB : WB V) {bits sk kn h : Nat} (hh : h < 24) : ltp V bits sk kn h ≤ 1000 := by
  have := fo_le hB (bits := bits) (sk := sk) (kn := kn) hh
  unfold ltp
  split <;> omega
theorem ltp_pa {V : Nat → Nat → Nat} {bits sk kn h lm : Nat} (hl : lm ≤ 99) : decide (ltp V bits sk kn h ≤ lm) = paB V bits sk kn h lm := by
  unfold ltp paB
  cases okB V bits sk kn h
  · simp; omega
  · simp
/-! the class's town -/
theorem ring_C : ∀ h, h < 24 → f_X6_ringMore (nI h) = some (nI (rgN h)) := by decide +kernel
theorem hard_K : ∀ kd, kd < 6 → ∀ fg, fg < 10 → ∀ h, h < 24 → (if nI kd = (1 : Int32) then some (nI fg + (2 : Int32)) else if nI kd = (2 : Int32) then (f_X6_ringMore (nI h)).bind (fun x3 => some (nI fg + x3)) else if nI kd = (3 : Int32) then (if nI h = (8 : Int32) then some ((2 : Int32) * (nI fg + (2 : Int32))) else if nI h = (15 : Int32) then some ((2 : Int32) * (nI fg + (2 : Int32))) else some (nI fg + (2 : Int32))) else if nI kd = (4 : Int32) then some (nI fg / (2 : Int32)) else if nI kd = (5 : Int32) then (f_X6_ringMore (nI h)).bind (fun x4 => some ((nI fg + x4) + (1 : Int32))) else some (nI fg)) = some (nI (hdN kd fg h)) := by decide +kernel
theorem hard_C {V : Nat → Nat → Nat} {T : OS} (hT : TR V T) (hB : WB V) {s h : Nat} (hs : s < 8) (hh : h < 24) : f_X6_hardOf T (nI s) (nI h) = some (nI (hd V s h)) := by
  obtain ⟨h1, h2, -⟩ := hB.2.2.2.1 s hs
  unfold f_X6_hardOf
  rw [at_in hs (by decide), Option.bind_some, at_in hs (by decide), Option.bind_some, hT.2 7 (by decide) (by decide) s hs, hT.2 6 (by decide) (by decide) s hs]
  exact hard_K _ (by omega) _ (by omega) _ hh
theorem ballK : ∀ kd, kd < 6 → (if nI kd = (2 : Int32) then some (3 : Int32) else if nI kd = (3 : Int32) then some (4 : Int32) else if nI kd = (4 : Int32) then some (0 : Int32) else if nI kd = (5 : Int32) then some (3 : Int32) else some (1 : Int32)) = some (nI (blN kd)) := by decide +kernel
theorem ball_C {V : Nat → Nat → Nat} {T : OS} (hT : TR V T) (hB : WB V) {s : Nat} (hs : s < 8) : f_X6_ballOf T (nI s) = some (nI (blN (V 6 s))) := by
  obtain ⟨h1, h2, -⟩ := hB.2.2.2.1 s hs
  unfold f_X6_ballOf
  rw [at_in hs (by decide), Option.bind_some, hT.2 6 (by decide) (by decide) s hs]
  exact ballK _ (by omega)
theorem ff_C : ∀ x, x < 23 → ∀ sk, sk < 10 → ∀ b : Bool, f_X6_faultsFor (nI x) (nI sk) (bI b) = some (nI (fq x sk b)) := by decide +kernel
theorem in_C {ns : Nat} {n : Int32} (hn : n = nI ns) (h8 : ns < 2 ^ 31) (v : Int32) : (∃ k, k < ns ∧ v = nI k ∧ (if v < 0 then some (0 : Int32) else if n ≤ v then some (0 : Int32) else some (1 : Int32)) = some 1) ∨ ((∀ k, k < ns → v ≠ nI k) ∧ (if v < 0 then some (0 : Int32) else if n ≤ v then some (0 : Int32) else some (1 : Int32)) = some 0) := by
  subst hn
  rcases pk_ix v h8 with h | h | ⟨k, hk, rfl⟩
  · refine Or.inr ⟨fun k hk e => ?_, by rw [if_pos h]⟩
    subst e
    exact nI_pos (by omega) h
  · refine Or.inr ⟨fun k hk e => ?_, by rw [if_pos h]; split <;> rfl⟩
    subst e
    exact nI_ge hk h8 h
  · exact Or.inl ⟨k, hk, rfl, by rw [if_neg (nI_pos (by omega)), if_neg (nI_ge hk h8)]⟩
theorem ltp_C {V : Nat → Nat → Nat} {T : OS} (hT : TR V T) (hB : WB V) {w h sk kn : Nat} (hw : w < V 1 0) (hh : h < 24) (hsk : sk ≤ 9) (hkn : kn < 256) : f_X6_limitToPass T (nI w) (nI sk) (nI kn) (nI h) = some (nI (ltp V (V 9 w) sk kn h)) := by
  have hth := WB_th hB hw
  have h8 := hB.1
  have h6 := hB.2.1
  unfold f_X6_limitToPass
  rw [at_in (by omega : w < 6) (by decide), Option.bind_some, hT.2 9 (by decide) (by decide) w (by show w < 6; omega)]
  refine lp_run2 (V 0 0) (fun i a s => a = nI (sb (fs V sk kn h) (V 9 w) i) ∧ s = nI i ∧ alB (fun s => !(V 9 w).testBit s || decide (fs V sk kn h s ≤ 5)) i = true) _ ?_ FU 0 _ _ (Nat.zero_le _) ⟨rfl, rfl, rfl⟩ (by rw [FU_1000]; omega)
  rintro k i a s hi ⟨rfl, rfl, hk⟩
  unfold b_X6_limitToPass_16
  rw [hT.1 0 (by decide)]
  by_cases e : i = V 0 0
  · left
    subst e
    rw [if_pos (nI_le (Nat.le_refl _) (by omega))]
    unfold ltp okB fo
    rw [hk, if_pos rfl]
  · have hlt : i < V 0 0 := by omega
    rw [if_neg (nI_ge hlt (by omega)), has_C (by omega) (by omega), Option.bind_some, if_bI]
    by_cases e2 : (V 9 w).testBit i = true
    · have hf := fs_le hB (sk := sk) (kn := kn) (by omega : i < 8) hh
      rw [if_pos e2, hard_C hT hB (by omega) hh, Option.bind_some, has_C (by omega) (by omega), Option.bind_some, ff_C _ (by have := hd_le hB (by omega : i < 8) hh; omega) _ (by omega), Option.bind_some]
      by_cases e3 : fs V sk kn h i ≤ 5
      · rw [if_pos (show nI (fq (hd V i h) sk (kn.testBit i)) ≤ (5 : Int32) from nI_le (b := 5) e3 (by decide))]
        refine Or.inr ⟨hlt, _, _, ⟨?_, nI_1 i, ?_⟩, rfl⟩
        · rw [sb, if_pos e2]; exact nI_add _ _
        · rw [alB, hk, e2]; simp [e3]
      · rw [if_neg (show ¬ nI (fq (hd V i h) sk (kn.testBit i)) ≤ (5 : Int32) from nI_ge (a := 5) (by unfold fs at e3; omega) (by unfold fs at hf; omega))]
        left
        unfold ltp okB
        rw [alB_no hlt (by rw [e2]; simp; omega)]
        rfl
    · rw [if_neg e2]
      refine Or.inr ⟨hlt, _, _, ⟨?_, nI_1 i, ?_⟩, rfl⟩
      · rw [sb, if_neg e2, Nat.add_zero]
      · rw [alB, hk]; simp [e2]
theorem fin_C {V : Nat → Nat → Nat} {T : OS} (hT : TR V T) (hB : WB V) (hL : WL V) {l s h : Nat} (hl : l < 5) (hs : s < 8) (hh : h < 24) : f_X6_faultsIn T (nI l) (nI s) (nI h) = some (nI (fs V (V 10 l) (V 11 l) h s)) := by
  have h8 := p2_8 hB.1
  obtain ⟨h1, h2⟩ := hL.2.2.2 l hl
  unfold f_X6_faultsIn
  rw [at_in hl (by decide), Option.bind_some, hT.2 11 (by decide) (by decide) l hl, has_C (by omega) (by omega), Option.bind_some, hard_C hT hB hs hh, Option.bind_some, at_in hl (by decide), Option.bind_some, hT.2 10 (by decide) (by decide) l hl, ff_C _ (by have := hd_le hB hs hh; omega) _ (by omega), Option.bind_some]
  rfl
theorem fo_C {V : Nat → Nat → Nat} {T : OS} (hT : TR V T) (hB : WB V) (hL : WL V) {l w h : Nat} (hl : l < 5) (hw : w < V 1 0) (hh : h < 24) : f_X6_faultsOn T (nI l) (nI w) (nI h) = some (nI (fo V (V 9 w) (V 10 l) (V 11 l) h)) := by
  have hth := WB_th hB hw
  have h8 := hB.1
  have h6 := hB.2.1
  unfold f_X6_faultsOn
  rw [at_in (by omega : w < 6) (by decide), Option.bind_some, hT.2 9 (by decide) (by decide) w (by show w < 6; omega)]
  refine lp_run2 (V 0 0) (fun i a s => a = nI (sb (fs V (V 10 l) (V 11 l) h) (V 9 w) i) ∧ s = nI i) _ ?_ FU 0 _ _ (Nat.zero_le _) ⟨rfl, rfl⟩ (by rw [FU_1000]; omega)
  rintro k i a s hi ⟨rfl, rfl⟩
  unfold b_X6_faultsOn_16
  rw [hT.1 0 (by decide)]
  by_cases e : i = V 0 0
  · left
    subst e
    rw [if_pos (nI_le (Nat.le_refl _) (by omega))]
    rfl
  · have hlt : i < V 0 0 := by omega
    rw [if_neg (nI_ge hlt (by omega)), has_C (by omega) (by omega), Option.bind_some, if_bI]
    by_cases e2 : (V 9 w).testBit i = true
    · rw [if_pos e2, fin_C hT hB hL hl (by omega) hh, Option.bind_some]
      refine Or.inr ⟨hlt, _, _, ⟨?_, nI_1 i⟩, rfl⟩
      rw [sb, if_pos e2]; exact nI_add _ _
    · rw [if_neg e2]
      refine Or.inr ⟨hlt, _, _, ⟨?_, nI_1 i⟩, rfl⟩
      rw [sb, if_neg e2, Nat.add_zero]
theorem pa_C {V : Nat → Nat → Nat} {T : OS} (hT : TR V T) (hB : WB V) (hL : WL V) {l w h : Nat} (hl : l < 5) (hw : w < V 1 0) (hh : h < 24) : f_X6_passes T (nI l) (nI w) (nI h) = some (bI (paB V (V 9 w) (V 10 l) (V 11 l) h (V 4 0))) := by
  have h8 := p2_8 hB.1
  obtain ⟨h1, h2⟩ := hL.2.2.2 l hl
  unfold f_X6_passes
  rw [at_in hl (by decide), Option.bind_some, hT.2 10 (by decide) (by decide) l hl, at_in hl (by decide), Option.bind_some, hT.2 11 (by decide) (by decide) l hl, ltp_C hT hB hw hh h1 (by omega), Option.bind_some, hT.1 4 (by decide), ← ltp_pa hL.2.1]
  have h3 := ltp_le hB (bits := V 9 w) (sk := V 10 l) (kn := V 11 l) hh
  have h4 := hL.2.1
  by_cases e : ltp V (V 9 w) (V 10 l) (V 11 l) h ≤ V 4 0
  · rw [if_neg (nI_nlt e (by omega)), decide_eq_true e]; rfl
  · rw [if_pos (nI_lt (by omega) (by omega)), decide_eq_false e]; rfl
/-- the ways that one of a skill, with what is known, passes: bits -/
def wp (V : Nat → Nat → Nat) (sk kn h lm : Nat) : Nat := bs (fun w => paB V (V 9 w) sk kn h lm) (V 1 0)
theorem wp_C {V : Nat → Nat → Nat} {T : OS} (hT : TR V T) (hB : WB V) (hL : WL V) {h sk kn : Nat} (hh : h < 24) (hsk : sk ≤ 9) (hkn : kn < 256) : f_X6_waysPassed T (nI sk) (nI kn) (nI h) = some (nI (wp V sk kn h (V 4 0))) := by
  have h6 := hB.2.1
  have h4 := hL.2.1
  unfold f_X6_waysPassed
  refine lp_run2 (V 1 0) (fun i a s => a = nI (bs (fun w => paB V (V 9 w) sk kn h (V 4 0)) i) ∧ s = nI i) _ ?_ FU 0 _ _ (Nat.zero_le _) ⟨rfl, rfl⟩ (by rw [FU_1000]; omega)
  rintro k i a s hi ⟨rfl, rfl⟩
  unfold b_X6_waysPassed_6
  rw [hT.1 1 (by decide)]
  by_cases e : i = V 1 0
  · left
    subst e
    rw [if_pos (nI_le (Nat.le_refl _) (by omega))]
    rfl
  · have hlt : i < V 1 0 := by omega
    have h3 := ltp_le hB (bits := V 9 i) (sk := sk) (kn := kn) hh
    rw [if_neg (nI_ge hlt (by omega)), ltp_C hT hB hlt hh hsk hkn, Option.bind_some, hT.1 4 (by decide)]
    have hp := ltp_pa (V := V) (bits := V 9 i) (sk := sk) (kn := kn) (h := h) h4
    by_cases e2 : ltp V (V 9 i) sk kn h ≤ V 4 0
    · rw [if_neg (nI_nlt e2 (by omega))]
      refine Or.inr ⟨hlt, _, _, ⟨?_, nI_1 i⟩, rfl⟩
      rw [decide_eq_true e2] at hp
      rw [bs, ← hp, if_pos rfl, sh1 i (by omega)]; exact or_nI _ _
    · rw [if_pos (nI_lt (by omega) (by omega))]
      refine Or.inr ⟨hlt, _, _, ⟨?_, nI_1 i⟩, rfl⟩
      rw [decide_eq_false e2] at hp
      rw [bs, ← hp, if_neg (by decide), Nat.or_zero]
def mo (V : Nat → Nat → Nat) (bits : Nat) : Nat := sb (V 8) bits (V 0 0)
def ho (V : Nat → Nat → Nat) (bits h : Nat) : Nat := sb (fun s => hd V s h) bits (V 0 0)
/-- kinds in a set of streets -/
def ko (V : Nat → Nat → Nat) (bits : Nat) : Nat → Nat
  | 0 => 0
  | n + 1 => ko V bits n ||| if bits.testBit n then 2 ^ V 6 n else 0
theorem mo_C {V : Nat → Nat → Nat} {T : OS} (hT : TR V T) (hB : WB V) {bits : Nat} (hb : bits < 2 ^ 31) : f_X6_minutesOn T (nI bits) = some (nI (mo V bits)) := by
  have h8 := hB.1
  unfold f_X6_minutesOn
  refine lp_run2 (V 0 0) (fun i a s => a = nI (sb (V 8) bits i) ∧ s = nI i) _ ?_ FU 0 _ _ (Nat.zero_le _) ⟨rfl, rfl⟩ (by rw [FU_1000]; omega)
  rintro k i a s hi ⟨rfl, rfl⟩
  unfold b_X6_minutesOn_4
  rw [hT.1 0 (by decide)]
  by_cases e : i = V 0 0
  · left
    subst e
    rw [if_pos (nI_le (Nat.le_refl _) (by omega))]
    rfl
  · have hlt : i < V 0 0 := by omega
    rw [if_neg (nI_ge hlt (by omega)), has_C hb (by omega), Option.bind_some, if_bI]
    by_cases e2 : bits.testBit i = true
    · rw [if_pos e2, at_in (by omega : i < 8) (by decide), Option.bind_some, hT.2 8 (by decide) (by decide) i (by show i < 8; omega)]
      refine Or.inr ⟨hlt, _, _, ⟨?_, nI_1 i⟩, rfl⟩
      rw [sb, if_pos e2]; exact nI_add _ _
    · rw [if_neg e2]
      refine Or.inr ⟨hlt, _, _, ⟨?_, nI_1 i⟩, rfl⟩
      rw [sb, if_neg e2, Nat.add_zero]
theorem ho_C {V : Nat → Nat → Nat} {T : OS} (hT : TR V T) (hB : WB V) {bits h : Nat} (hb : bits < 2 ^ 31) (hh : h < 24) : f_X6_hardOn T (nI bits) (nI h) = some (nI (ho V bits h)) := by
  have h8 := hB.1
  unfold f_X6_hardOn
  refine lp_run2 (V 0 0) (fun i a s => a = nI (sb (fun s => hd V s h) bits i) ∧ s = nI i) _ ?_ FU 0 _ _ (Nat.zero_le _) ⟨rfl, rfl⟩ (by rw [FU_1000]; omega)
  rintro k i a s hi ⟨rfl, rfl⟩
  unfold b_X6_hardOn_5
  rw [hT.1 0 (by decide)]
  by_cases e : i = V 0 0
  · left
    subst e
    rw [if_pos (nI_le (Nat.le_refl _) (by omega))]
    rfl
  · have hlt : i < V 0 0 := by omega
    rw [if_neg (nI_ge hlt (by omega)), has_C hb (by omega), Option.bind_some, if_bI]
    by_cases e2 : bits.testBit i = true
    · rw [if_pos e2, hard_C hT hB (by omega) hh, Option.bind_some]
      refine Or.inr ⟨hlt, _, _, ⟨?_, nI_1 i⟩, rfl⟩
      rw [sb, if_pos e2]; exact nI_add _ _
    · rw [if_neg e2]
      refine Or.inr ⟨hlt, _, _, ⟨?_, nI_1 i⟩, rfl⟩
      rw [sb, if_neg e2, Nat.add_zero]
theorem ko_C {V : Nat → Nat → Nat} {T : OS} (hT : TR V T) (hB : WB V) {bits : Nat} (hb : bits < 2 ^ 31) : f_X6_kindsOn T (nI bits) = some (nI (ko V bits (V 0 0))) := by
  have h8 := hB.1
  unfold f_X6_kindsOn
  refine lp_run2 (V 0 0) (fun i a s => a = nI (ko V bits i) ∧ s = nI i) _ ?_ FU 0 _ _ (Nat.zero_le _) ⟨rfl, rfl⟩ (by rw [FU_1000]; omega)
  rintro k i a s hi ⟨rfl, rfl⟩
  unfold b_X6_kindsOn_4
  rw [hT.1 0 (by decide)]
  by_cases e : i = V 0 0
  · left
    subst e
    rw [if_pos (nI_le (Nat.le_refl _) (by omega))]
  · have hlt : i < V 0 0 := by omega
    rw [if_neg (nI_ge hlt (by omega)), has_C hb (by omega), Option.bind_some, if_bI]
    by_cases e2 : bits.testBit i = true
    · have hk := (hB.2.2.2.1 i (by omega)).1
      rw [if_pos e2, at_in (by omega : i < 8) (by decide), Option.bind_some, hT.2 6 (by decide) (by decide) i (by show i < 8; omega), sh1 _ (by omega)]
      refine Or.inr ⟨hlt, _, _, ⟨?_, nI_1 i⟩, rfl⟩
      rw [ko, if_pos e2]; exact or_nI _ _
    · rw [if_neg e2]
      refine Or.inr ⟨hlt, _, _, ⟨?_, nI_1 i⟩, rfl⟩
      rw [ko, if_neg e2, Nat.or_zero]
