/-! PURE: the reference's town functions -/
def MB (V : Nat → Nat → Nat) (S : OS) : Prop := S.1 7 = nI (V 0 0) ∧ S.1 8 = nI (V 1 0) ∧ S.1 9 = nI (V 2 0) ∧ (∀ s, s < 8 → S.2 1 s = nI (V 6 s) ∧ S.2 2 s = nI (V 7 s) ∧ S.2 3 s = nI (V 8 s)) ∧ (∀ w, w < 6 → S.2 4 w = nI (V 9 w))
theorem MR_MB {V : Nat → Nat → Nat} {S : OS} (h : MR V S) : MB V S := ⟨h.1 0 (by decide), h.1 1 (by decide), h.1 2 (by decide), fun s hs => ⟨h.2 6 (by decide) (by decide) s hs, h.2 7 (by decide) (by decide) s hs, h.2 8 (by decide) (by decide) s hs⟩, fun w hw => h.2 9 (by decide) (by decide) w hw⟩
theorem inb_t {α : Type} {k N : Nat} {o : Option α} (h : k < N) (hN : N < 2 ^ 31) : (if inb (nI k) N = true then o else none) = o := by rw [if_pos (inb_nI h hN)]
theorem hard_KM : ∀ kd, kd < 6 → ∀ fg, fg < 10 → ∀ h, h < 24 → ((f_X8_isIn (nI h) 15 17).bind fun x1 => if x1 = 0 then (if nI kd = (1 : Int32) then some (nI fg + (2 : Int32)) else if nI kd = (2 : Int32) then some (nI fg + (1 : Int32)) else if nI kd = (3 : Int32) then (if nI h = (8 : Int32) then some ((nI fg + (2 : Int32)) * (2 : Int32)) else if nI h = (15 : Int32) then some ((nI fg + (2 : Int32)) * (2 : Int32)) else some ((nI fg + (2 : Int32)) * (1 : Int32))) else if nI kd = (4 : Int32) then some (nI fg / (2 : Int32)) else if nI kd = (5 : Int32) then some ((nI fg + (1 : Int32)) + (1 : Int32)) else some (nI fg)) else (if nI kd = (1 : Int32) then some (nI fg + (2 : Int32)) else if nI kd = (2 : Int32) then some (nI fg + (3 : Int32)) else if nI kd = (3 : Int32) then (if nI h = (8 : Int32) then some ((nI fg + (2 : Int32)) * (2 : Int32)) else if nI h = (15 : Int32) then some ((nI fg + (2 : Int32)) * (2 : Int32)) else some ((nI fg + (2 : Int32)) * (1 : Int32))) else if nI kd = (4 : Int32) then some (nI fg / (2 : Int32)) else if nI kd = (5 : Int32) then some ((nI fg + (3 : Int32)) + (1 : Int32)) else some (nI fg))) = some (nI (hdN kd fg h)) := by decide +kernel
theorem hard_M {V : Nat → Nat → Nat} {S : OS} (hM : MB V S) (hB : WB V) {s h : Nat} (hs : s < 8) (hh : h < 24) : f_X8_hardOf S (nI s) (nI h) = some (nI (hd V s h)) := by
  obtain ⟨h1, h2, -⟩ := hB.2.2.2.1 s hs
  obtain ⟨g1, g2, g3⟩ := hM.2.2.2.1 s hs
  unfold f_X8_hardOf j_X8_hardOf_24
  simp only [inb_nI hs (show 8 < 2 ^ 31 by decide), nI_clamp (show s < 2 ^ 31 by omega), g1, g2, ↓reduceIte]
  exact hard_KM _ (by omega) _ (by omega) _ hh
theorem ball_M {V : Nat → Nat → Nat} {S : OS} (hM : MB V S) (hB : WB V) {s : Nat} (hs : s < 8) : f_X8_ballOf S (nI s) = some (nI (blN (V 6 s))) := by
  obtain ⟨h1, h2, -⟩ := hB.2.2.2.1 s hs
  obtain ⟨g1, g2, g3⟩ := hM.2.2.2.1 s hs
  unfold f_X8_ballOf
  rw [inb_t hs (by decide), nI_clamp (by omega), g1]
  exact ballK _ (by omega)
theorem ff_KM : ∀ x, x < 23 → ∀ sk, sk < 10 → ∀ b : Bool, (if 0 ≤ nI x - nI sk then (if bI b = 0 then some (nI x - nI sk) else some ((nI x - nI sk) / (2 : Int32))) else some (0 : Int32)) = some (nI (fq x sk b)) := by decide +kernel
theorem fin_M {V : Nat → Nat → Nat} {S : OS} (hM : MB V S) (hB : WB V) {l s h sk kn : Nat} (hl : l < 5) (hs : s < 8) (hh : h < 24) (hsk : S.2 5 l = nI sk) (hkn : S.2 6 l = nI kn) (h9 : sk ≤ 9) (hk : kn < 256) : f_X8_faultsIn S (nI l) (nI s) (nI h) = some (nI (fs V sk kn h s)) := by
  unfold f_X8_faultsIn
  rw [hard_M hM hB hs hh, Option.bind_some, inb_t hl (by decide), inb_t hl (by decide), nI_clamp (by omega), hsk, hkn, has_M (by omega) (by omega), Option.bind_some]
  exact ff_KM _ (by have := hd_le hB hs hh; omega) _ (by omega) _
theorem fo_M {V : Nat → Nat → Nat} {S : OS} (hM : MB V S) (hB : WB V) {l bits h sk kn : Nat} (hl : l < 5) (hb : bits < 2 ^ 31) (hh : h < 24) (hsk : S.2 5 l = nI sk) (hkn : S.2 6 l = nI kn) (h9 : sk ≤ 9) (hk : kn < 256) : f_X8_faultsOn S (nI l) (nI bits) (nI h) = some (nI (fo V bits sk kn h)) := by
  have h8 := hB.1
  unfold f_X8_faultsOn
  refine lp_run2 (V 0 0) (fun i a s => a = nI (sb (fs V sk kn h) bits i) ∧ s = nI i) _ ?_ FU 0 _ _ (Nat.zero_le _) ⟨rfl, rfl⟩ (by rw [FU_1000]; omega)
  rintro k i a s hi ⟨rfl, rfl⟩
  unfold b_X8_faultsOn_6
  rw [hM.1]
  by_cases e : i = V 0 0
  · left
    subst e
    rw [if_pos (nI_le (Nat.le_refl _) (by omega))]
    rfl
  · have hlt : i < V 0 0 := by omega
    rw [if_neg (nI_ge hlt (by omega)), has_M hb (by omega), Option.bind_some, if_bI]
    by_cases e2 : bits.testBit i = true
    · rw [if_pos e2, fin_M hM hB hl (by omega) hh hsk hkn h9 hk, Option.bind_some]
      refine Or.inr ⟨hlt, _, _, ⟨?_, nI_1 i⟩, rfl⟩
      rw [sb, if_pos e2]; exact nI_add _ _
    · rw [if_neg e2]
      refine Or.inr ⟨hlt, _, _, ⟨?_, nI_1 i⟩, rfl⟩
      rw [sb, if_neg e2]; exact nI_add _ 0
theorem ip_M {V : Nat → Nat → Nat} {S : OS} (hM : MB V S) (hB : WB V) {l bits h sk kn lm : Nat} (hl : l < 5) (hb : bits < 2 ^ 31) (hh : h < 24) (hsk : S.2 5 l = nI sk) (hkn : S.2 6 l = nI kn) (h9 : sk ≤ 9) (hk : kn < 256) (hlm : S.1 11 = nI lm) (hl9 : lm ≤ 99) : f_X8_isPassed S (nI l) (nI bits) (nI h) = some (bI (paB V bits sk kn h lm)) := by
  have h8 := hB.1
  unfold f_X8_isPassed
  refine lp_run1 (V 0 0) (fun i s => s = nI i ∧ alB (fun s => !bits.testBit s || decide (fs V sk kn h s ≤ 5)) i = true) _ ?_ FU 0 _ (Nat.zero_le _) ⟨rfl, rfl⟩ (by rw [FU_1000]; omega)
  rintro k i s hi ⟨rfl, hk2⟩
  unfold b_X8_isPassed_3
  rw [hM.1]
  by_cases e : i = V 0 0
  · left
    subst e
    rw [if_pos (nI_le (Nat.le_refl _) (by omega))]
    unfold j_X8_isPassed_41
    rw [fo_M hM hB hl hb hh hsk hkn h9 hk, Option.bind_some, hlm]
    have h3 := fo_le hB (bits := bits) (sk := sk) (kn := kn) hh
    unfold paB okB
    rw [hk2, Bool.true_and]
    by_cases e : fo V bits sk kn h ≤ lm
    · rw [if_neg (nI_nlt e (by omega)), decide_eq_true e]; rfl
    · rw [if_pos (nI_lt (by omega) (by omega)), decide_eq_false e]; rfl
  · have hlt : i < V 0 0 := by omega
    rw [if_neg (nI_ge hlt (by omega)), has_M hb (by omega), Option.bind_some, if_bI]
    by_cases e2 : bits.testBit i = true
    · have hf := fs_le hB (sk := sk) (kn := kn) (by omega : i < 8) hh
      rw [if_pos e2, fin_M hM hB hl (by omega) hh hsk hkn h9 hk, Option.bind_some]
      by_cases e3 : fs V sk kn h i ≤ 5
      · rw [if_pos (show nI (fs V sk kn h i) ≤ (5 : Int32) from nI_le (b := 5) e3 (by decide))]
        refine Or.inr ⟨hlt, _, ⟨nI_1 i, ?_⟩, rfl⟩
        rw [alB, hk2, e2]; simp [e3]
      · rw [if_neg (show ¬ nI (fs V sk kn h i) ≤ (5 : Int32) from nI_ge (a := 5) (by omega) (by omega))]
        left
        unfold paB okB
        rw [alB_no hlt (by rw [e2]; simp; omega), Bool.false_and]
        rfl
    · rw [if_neg e2]
      refine Or.inr ⟨hlt, _, ⟨nI_1 i, ?_⟩, rfl⟩
      rw [alB, hk2]; simp [e2]
theorem pw_M {V : Nat → Nat → Nat} {S : OS} (hM : MB V S) (hB : WB V) {l w h sk kn lm : Nat} (hl : l < 5) (hw : w < V 1 0) (hh : h < 24) (hsk : S.2 5 l = nI sk) (hkn : S.2 6 l = nI kn) (h9 : sk ≤ 9) (hk : kn < 256) (hlm : S.1 11 = nI lm) (hl9 : lm ≤ 99) : f_X8_passesWay S (nI l) (nI w) (nI h) = some (bI (paB V (V 9 w) sk kn h lm)) := by
  have h6 := hB.2.1
  have hth := WB_th hB hw
  unfold f_X8_passesWay
  rw [inb_t (by omega : w < 6) (by decide), nI_clamp (by omega), hM.2.2.2.2 w (by omega), ip_M hM hB hl (by omega) hh hsk hkn h9 hk hlm hl9, Option.bind_some, if_pos (bI_isB _)]
theorem wp_M {V : Nat → Nat → Nat} {S : OS} (hM : MB V S) (hB : WB V) {l h sk kn lm : Nat} (hl : l < 5) (hh : h < 24) (hsk : S.2 5 l = nI sk) (hkn : S.2 6 l = nI kn) (h9 : sk ≤ 9) (hk : kn < 256) (hlm : S.1 11 = nI lm) (hl9 : lm ≤ 99) : f_X8_passedWays S (nI l) (nI h) = some (nI (wp V sk kn h lm)) := by
  have h6 := hB.2.1
  unfold f_X8_passedWays
  refine lp_run2 (V 1 0) (fun i a s => a = nI (bs (fun w => paB V (V 9 w) sk kn h lm) i) ∧ s = nI i) _ ?_ FU 0 _ _ (Nat.zero_le _) ⟨rfl, rfl⟩ (by rw [FU_1000]; omega)
  rintro k i a s hi ⟨rfl, rfl⟩
  unfold b_X8_passedWays_5
  rw [hM.2.1]
  by_cases e : i = V 1 0
  · left
    subst e
    rw [if_pos (nI_le (Nat.le_refl _) (by omega))]
    rfl
  · have hlt : i < V 1 0 := by omega
    rw [if_neg (nI_ge hlt (by omega)), pw_M hM hB hl hlt hh hsk hkn h9 hk hlm hl9, Option.bind_some, if_bI]
    by_cases e2 : paB V (V 9 i) sk kn h lm = true
    · rw [if_pos e2]
      refine Or.inr ⟨hlt, _, _, ⟨?_, nI_1 i⟩, rfl⟩
      rw [bs, if_pos e2, sh1 i (by omega)]; exact or_nI _ _
    · rw [if_neg e2]
      refine Or.inr ⟨hlt, _, _, ⟨?_, nI_1 i⟩, rfl⟩
      rw [bs, if_neg e2]; exact or_nI _ 0
theorem mo_M {V : Nat → Nat → Nat} {S : OS} (hM : MB V S) (hB : WB V) {bits : Nat} (hb : bits < 2 ^ 31) : f_X8_minutesOf S (nI bits) = some (nI (mo V bits)) := by
  have h8 := hB.1
  unfold f_X8_minutesOf
  refine lp_run2 (V 0 0) (fun i a s => a = nI (sb (V 8) bits i) ∧ s = nI i) _ ?_ FU 0 _ _ (Nat.zero_le _) ⟨rfl, rfl⟩ (by rw [FU_1000]; omega)
  rintro k i a s hi ⟨rfl, rfl⟩
  unfold b_X8_minutesOf_4
  rw [hM.1]
  by_cases e : i = V 0 0
  · left
    subst e
    rw [if_pos (nI_le (Nat.le_refl _) (by omega))]
    rfl
  · have hlt : i < V 0 0 := by omega
    rw [if_neg (nI_ge hlt (by omega)), has_M hb (by omega), Option.bind_some, if_bI]
    by_cases e2 : bits.testBit i = true
    · rw [if_pos e2, inb_t (by omega : i < 8) (by decide), nI_clamp (by omega), (hM.2.2.2.1 i (by omega)).2.2]
      refine Or.inr ⟨hlt, _, _, ⟨?_, nI_1 i⟩, rfl⟩
      rw [sb, if_pos e2]; exact nI_add _ _
    · rw [if_neg e2]
      refine Or.inr ⟨hlt, _, _, ⟨?_, nI_1 i⟩, rfl⟩
      rw [sb, if_neg e2]; exact nI_add _ 0
theorem ho_M {V : Nat → Nat → Nat} {S : OS} (hM : MB V S) (hB : WB V) {bits h : Nat} (hb : bits < 2 ^ 31) (hh : h < 24) : f_X8_hardOn S (nI bits) (nI h) = some (nI (ho V bits h)) := by
  have h8 := hB.1
  unfold f_X8_hardOn
  refine lp_run2 (V 0 0) (fun i a s => a = nI (sb (fun s => hd V s h) bits i) ∧ s = nI i) _ ?_ FU 0 _ _ (Nat.zero_le _) ⟨rfl, rfl⟩ (by rw [FU_1000]; omega)
  rintro k i a s hi ⟨rfl, rfl⟩
  unfold b_X8_hardOn_5
  rw [hM.1]
  by_cases e : i = V 0 0
  · left
    subst e
    rw [if_pos (nI_le (Nat.le_refl _) (by omega))]
    rfl
  · have hlt : i < V 0 0 := by omega
    rw [if_neg (nI_ge hlt (by omega)), has_M hb (by omega), Option.bind_some, if_bI]
    by_cases e2 : bits.testBit i = true
    · rw [if_pos e2, hard_M hM hB (by omega) hh, Option.bind_some]
      refine Or.inr ⟨hlt, _, _, ⟨?_, nI_1 i⟩, rfl⟩
      rw [sb, if_pos e2]; exact nI_add _ _
    · rw [if_neg e2]
      refine Or.inr ⟨hlt, _, _, ⟨?_, nI_1 i⟩, rfl⟩
      rw [sb, if_neg e2]; exact nI_add _ 0
theorem ko_M {V : Nat → Nat → Nat} {S : OS} (hM : MB V S) (hB : WB V) {bits : Nat} (hb : bits < 2 ^ 31) : f_X8_kindsOf S (nI bits) = some (nI (ko V bits (V 0 0))) := by
  have h8 := hB.1
  unfold f_X8_kindsOf
  refine lp_run2 (V 0 0) (fun i a s => a = nI (ko V bits i) ∧ s = nI i) _ ?_ FU 0 _ _ (Nat.zero_le _) ⟨rfl, rfl⟩ (by rw [FU_1000]; omega)
  rintro k i a s hi ⟨rfl, rfl⟩
  unfold b_X8_kindsOf_4
  rw [hM.1]
  by_cases e : i = V 0 0
  · left
    subst e
    rw [if_pos (nI_le (Nat.le_refl _) (by omega))]
  · have hlt : i < V 0 0 := by omega
    rw [if_neg (nI_ge hlt (by omega)), has_M hb (by omega), Option.bind_some, if_bI]
    by_cases e2 : bits.testBit i = true
    · have hk := (hB.2.2.2.1 i (by omega)).1
      rw [if_pos e2, inb_t (by omega : i < 8) (by decide), nI_clamp (by omega), (hM.2.2.2.1 i (by omega)).1, sh1 _ (by omega)]
      refine Or.inr ⟨hlt, _, _, ⟨?_, nI_1 i⟩, rfl⟩
      rw [ko, if_pos e2]; exact or_nI _ _
    · rw [if_neg e2]
      refine Or.inr ⟨hlt, _, _, ⟨?_, nI_1 i⟩, rfl⟩
      rw [ko, if_neg e2]; exact or_nI _ 0
