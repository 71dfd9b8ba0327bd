/-! PURE: the reference's questions: limits, the row -/
theorem su_up {S : OS} {k : Nat} {x y : Int32} : su (su S k x) k y = su S k y := by
  obtain ⟨a, b⟩ := S
  show ((upd (upd a k x) k y, b) : OS) = (upd a k y, b)
  congr 1
  funext j
  by_cases h : j = k
  · subst h; rw [upd_s, upd_s]
  · rw [upd_n h, upd_n h, upd_n h]
theorem su_id {S : OS} {k : Nat} {x : Int32} (h : S.1 k = x) : su S k x = S := by
  obtain ⟨a, b⟩ := S
  show ((upd a k x, b) : OS) = (a, b)
  congr 1
  funext j
  by_cases e : j = k
  · subst e; rw [upd_s]; exact h.symm
  · rw [upd_n e]
theorem MR_su {V : Nat → Nat → Nat} {S : OS} (h : MR V S) {k : Nat} (hk : 13 ≤ k) {v : Int32} : MR V (su S k v) :=
  ⟨fun i hi => by rw [su_n (by omega)]; exact h.1 i hi, fun i h1 h2 j hj => h.2 i h1 h2 j hj⟩
theorem MR_sa {V : Nat → Nat → Nat} {S : OS} (h : MR V S) {k : Nat} (hk : 7 ≤ k) {f : Nat → Int32} : MR V (sa S k f) :=
  ⟨fun i hi => h.1 i hi, fun i h1 h2 j hj => by rw [sa_n (by omega)]; exact h.2 i h1 h2 j hj⟩
/-- the reference's town with the limit lm -/
def ML (V : Nat → Nat → Nat) (lm : Nat) (S : OS) : Prop := MB V S ∧ (∀ l, l < 5 → S.2 5 l = nI (V 10 l) ∧ S.2 6 l = nI (V 11 l)) ∧ S.1 10 = nI (V 3 0) ∧ S.1 11 = nI lm
theorem MR_ML {V : Nat → Nat → Nat} {S : OS} (h : MR V S) : ML V (V 4 0) S := ⟨MR_MB h, fun l hl => ⟨h.2 10 (by decide) (by decide) l hl, h.2 11 (by decide) (by decide) l hl⟩, h.1 3 (by decide), h.1 4 (by decide)⟩
theorem MR_ML2 {V : Nat → Nat → Nat} {S : OS} (h : MR V S) {m : Nat} : ML V m (su S 11 (nI m)) := by
  obtain ⟨h1, h2, h3, h4⟩ := MR_ML h
  exact ⟨MB_su h1 (by decide), h2, by rw [su_n (by decide)]; exact h3, su_s⟩
theorem pwL {V : Nat → Nat → Nat} {S : OS} {lm : Nat} (hX : ML V lm S) (hB : WB V) (hL : WL V) (hm : lm ≤ 99) {l w h : Nat} (hl : l < 5) (hw : w < V 1 0) (hh : h < 24) : f_X8_passesWay S (nI l) (nI w) (nI h) = some (bI (paB V (V 9 w) (V 10 l) (V 11 l) h lm)) :=
  pw_M hX.1 hB hl hw hh (hX.2.1 l hl).1 (hX.2.1 l hl).2 (hL.2.2.2 l hl).1 (kn_lt hB hL hl) hX.2.2.2 hm
theorem wpL {V : Nat → Nat → Nat} {S : OS} {lm : Nat} (hX : ML V lm S) (hB : WB V) (hL : WL V) (hm : lm ≤ 99) {l h : Nat} (hl : l < 5) (hh : h < 24) : f_X8_passedWays S (nI l) (nI h) = some (nI (wp V (V 10 l) (V 11 l) h lm)) :=
  wp_M hX.1 hB hl hh (hX.2.1 l hl).1 (hX.2.1 l hl).2 (hL.2.2.2 l hl).1 (kn_lt hB hL hl) hX.2.2.2 hm
theorem llI_iff {V : Nat → Nat → Nat} {l m0 m : Nat} : ∀ n, llI V l m0 n ≤ m ↔ m0 ≤ m ∧ ∀ w, w < n → ltp V (V 9 w) (V 10 l) (V 11 l) (V 3 0) ≤ m
  | 0 => ⟨fun h => ⟨h, fun w hw => by omega⟩, fun h => h.1⟩
  | n + 1 => by
    have ih := llI_iff (V := V) (l := l) (m0 := m0) (m := m) n
    rw [llI]
    constructor
    · intro h
      have h1 := ih.mp (by omega)
      refine ⟨h1.1, fun w hw => ?_⟩
      by_cases e : w = n
      · subst e; omega
      · exact h1.2 w (by omega)
    · intro h
      have h1 := ih.mpr ⟨h.1, fun w hw => h.2 w (by omega)⟩
      have h2 := h.2 n (by omega)
      omega
theorem llO_iff {V : Nat → Nat → Nat} {m : Nat} : ∀ n, llO V n ≤ m ↔ ∀ l, l < n → ∀ w, w < V 1 0 → ltp V (V 9 w) (V 10 l) (V 11 l) (V 3 0) ≤ m
  | 0 => ⟨fun _ l hl => by omega, fun _ => Nat.zero_le _⟩
  | n + 1 => by
    have ih := llO_iff (V := V) (m := m) n
    rw [llO, llI_iff, ih]
    constructor
    · intro h l hl
      by_cases e : l = n
      · subst e; exact h.2
      · exact h.1 l (by omega)
    · intro h
      exact ⟨fun l hl => h l (by omega), h n (by omega)⟩
theorem allp_M {V : Nat → Nat → Nat} {S : OS} {m : Nat} (hX : ML V m S) (hB : WB V) (hL : WL V) (hm : m ≤ 99) : f_X8_allPass S = some (bI (decide (llO V (V 2 0) ≤ m))) := by
  have h5 := hB.2.2.1
  have h6 := hB.2.1
  have hp6 : 2 ^ V 1 0 ≤ 2 ^ 6 := Nat.pow_le_pow_right (by decide) h6
  have full : ∀ l, wp V (V 10 l) (V 11 l) (V 3 0) m = 2 ^ V 1 0 - 1 ↔ ∀ w, w < V 1 0 → ltp V (V 9 w) (V 10 l) (V 11 l) (V 3 0) ≤ m := by
    intro l
    unfold wp
    rw [bs_all]
    constructor
    · intro h w hw
      have := alB_at h hw
      rw [← ltp_pa hm] at this
      exact of_decide_eq_true this
    · intro h
      exact alB_of fun w hw => by rw [← ltp_pa hm]; exact decide_eq_true (h w hw)
  unfold f_X8_allPass
  refine lp_run1 (V 2 0) (fun i s => s = nI i ∧ ∀ l, l < i → ∀ w, w < V 1 0 → ltp V (V 9 w) (V 10 l) (V 11 l) (V 3 0) ≤ m) _ ?_ FU 0 _ (Nat.zero_le _) ⟨rfl, fun l hl => by omega⟩ (by rw [FU_1000]; omega)
  rintro k i s hi ⟨rfl, ha⟩
  unfold b_X8_allPass_2
  rw [hX.1.2.2.1]
  by_cases e : i = V 2 0
  · left
    subst e
    rw [if_pos (nI_le (Nat.le_refl _) (by omega)), decide_eq_true ((llO_iff _).mpr ha)]
    rfl
  · have hlt : i < V 2 0 := by omega
    have hlt2 := wp_lt hB (sk := V 10 i) (kn := V 11 i) (h := V 3 0) (lm := m)
    rw [if_neg (nI_ge hlt (by omega)), hX.2.2.1, wpL hX hB hL hm (by omega) hL.1, Option.bind_some, hX.1.2.1, sh1 _ (by omega), show nI (2 ^ V 1 0) - (1 : Int32) = nI (2 ^ V 1 0 - 1) from pk_sub (a := 2 ^ V 1 0) (b := 1) (Nat.two_pow_pos _), show nI i + (1 : Int32) = nI (i + 1) from nI_1 i]
    by_cases q : wp V (V 10 i) (V 11 i) (V 3 0) m = 2 ^ V 1 0 - 1
    · rw [if_pos (congrArg nI q)]
      refine Or.inr ⟨hlt, _, ⟨rfl, fun l hl => ?_⟩, rfl⟩
      by_cases el : l = i
      · subst el; exact (full _).mp q
      · exact ha l (by omega)
    · rw [if_neg (fun z => q ((nI_eq (by omega) (by omega)).mp z))]
      left
      rw [decide_eq_false (fun z => q ((full i).mpr ((llO_iff _).mp z i hlt)))]
      rfl
theorem limit_M {V : Nat → Nat → Nat} {S : OS} (hM : MR V S) (hB : WB V) (hL : WL V) : f_X8_limitWanted S = some (lwA V, S) := by
  have e4 : S.1 11 = nI (V 4 0) := hM.1 4 (by decide)
  have fin : ∀ (x : Int32), some (lwA V, su (su S 11 x) 11 (S.1 11)) = some (lwA V, S) := fun x => by rw [su_up, su_id rfl]
  have h100 : ob (-9) (fst (fun m => decide (llO V (V 2 0) ≤ m)) 100) = lwA V := by
    unfold lwA
    by_cases e : llO V (V 2 0) ≤ 99
    · rw [if_pos e, fst_at (i := llO V (V 2 0)) (fun j hj => decide_eq_false (by omega)) (decide_eq_true (Nat.le_refl _)) (by omega)]; rfl
    · rw [if_neg e, fst_no (fun j hj => decide_eq_false (by omega))]; rfl
  unfold f_X8_limitWanted
  refine lp_run3 100 (fun i b s t => b = ob (-9) (fst (fun m => decide (llO V (V 2 0) ≤ m)) i) ∧ s = nI i ∧ ∃ x, t = su S 11 x) _ ?_ FU 0 _ _ _ (Nat.zero_le _) ⟨rfl, rfl, S.1 11, (su_id rfl).symm⟩ (by rw [FU_1000]; omega)
  rintro k i b s t hi ⟨rfl, rfl, x, rfl⟩
  unfold b_X8_limitWanted_10
  by_cases e : i = 100
  · left
    subst e
    rw [if_pos (by decide), h100]
    exact fin x
  · have hlt : i < 100 := by omega
    rw [if_neg (show ¬ (99 : Int32) < nI i from nI_nlt (b := i) (a := 99) (by omega) (by decide))]
    cases ho : fst (fun m => decide (llO V (V 2 0) ≤ m)) i with
    | some j =>
      left
      have hj := (fst_ok ho).1
      rw [if_pos (show 0 ≤ ob (-9) (some j) from nI_pos' (by omega)), ← fst_up ho (show i ≤ 100 by omega), h100]
      exact fin x
    | none =>
      rw [if_neg (by decide), su_up, allp_M (MR_ML2 hM) hB hL (by omega), Option.bind_some, if_bI]
      unfold j_X8_limitWanted_38
      rw [show nI i + (1 : Int32) = nI (i + 1) from nI_1 i]
      refine Or.inr ⟨hlt, ?_⟩
      by_cases q : decide (llO V (V 2 0) ≤ i) = true
      · rw [if_pos q]
        exact ⟨_, _, _, ⟨by rw [fst, ho]; simp only [if_pos q]; rfl, rfl, _, rfl⟩, rfl⟩
      · rw [if_neg q]
        exact ⟨_, _, _, ⟨by rw [fst, ho]; simp only [if_neg q]; rfl, rfl, _, rfl⟩, rfl⟩
/-! the row -/
theorem told_M {V : Nat → Nat → Nat} {R : Nat → Nat} {n : Nat} {S : OS} (hM : MR V S) (hB : WB V) (hS : S.1 26 = nI n) (hR : RW R n (S.2 25)) : f_X8_notTold S = some (if twB V R n = true then 0 else -3) := by
  have h5 := hB.2.2.1
  have h12 := hR.1
  unfold f_X8_notTold
  refine lp_run1 n (fun i s => s = nI i ∧ alB (fun k => decide (R k ≤ 2)) i = true) _ ?_ FU 0 _ (Nat.zero_le _) ⟨rfl, rfl⟩ (by rw [FU_1000]; omega)
  rintro k i s hi ⟨rfl, ha⟩
  unfold b_X8_notTold_2 j_X8_notTold_29 twB
  rw [hS, hM.1 2 (by decide)]
  by_cases e1 : i = n
  · left
    subst e1
    rw [if_pos (nI_le (Nat.le_refl _) (by omega)), ha, Bool.and_true]
    by_cases e : i ≤ V 2 0
    · rw [if_pos (nI_le e (by omega)), if_pos (decide_eq_true e)]
    · rw [if_neg (nI_ge (by omega) (by omega)), if_neg (by simpa using e)]
  · have hlt : i < n := by omega
    obtain ⟨g1, g2⟩ := hR.2 i hlt
    rw [if_neg (nI_ge hlt (by omega)), inb_t (by omega : i < 12) (by decide), nI_clamp (by omega), g1]
    by_cases e2 : R i ≤ 2
    · rw [if_pos (show nI (R i) ≤ (2 : Int32) from nI_le (b := 2) e2 (by decide))]
      exact Or.inr ⟨hlt, _, ⟨nI_1 i, by rw [alB, ha]; simp [e2]⟩, rfl⟩
    · rw [if_neg (show ¬ nI (R i) ≤ (2 : Int32) from nI_ge (a := 2) (by omega) (by omega))]
      left
      rw [alB_no hlt (by simp; omega), Bool.and_false, if_neg (by decide)]
theorem so_M {V : Nat → Nat → Nat} {R : Nat → Nat} {n lm : Nat} {S : OS} (hX : ML V lm S) (hB : WB V) (hL : WL V) (hm : lm ≤ 99) (hS : S.1 26 = nI n) (hR : RW R n (S.2 25)) (hn : n ≤ V 2 0) (h2 : ∀ k, k < n → R k ≤ 2) {w h : Nat} (hw : w < V 1 0) (hh : h < 24) : f_X8_isSo S (nI w) (nI h) = some (bI (soB V R w h lm n)) := by
  have h5 := hB.2.2.1
  unfold f_X8_isSo
  refine lp_run1 n (fun i s => s = nI i ∧ soB V R w h lm i = true) _ ?_ FU 0 _ (Nat.zero_le _) ⟨rfl, rfl⟩ (by rw [FU_1000]; omega)
  rintro k i s hi ⟨rfl, ha⟩
  unfold b_X8_isSo_2 j_X8_isSo_42 j_X8_isSo_47
  rw [hS]
  by_cases e1 : i = n
  · left
    subst e1
    rw [if_pos (nI_le (Nat.le_refl _) (by omega)), ha]
    rfl
  · have hlt : i < n := by omega
    obtain ⟨g1, g2⟩ := hR.2 i hlt
    have h3 := h2 i hlt
    rw [if_neg (nI_ge hlt (by omega)), inb_t (by omega : i < 12) (by decide), nI_clamp (by omega), g1, pwL hX hB hL hm (by omega) hw hh]
    simp only [Option.bind_some]
    rw [inb_t (by omega : i < 12) (by decide), show nI i + (1 : Int32) = nI (i + 1) from nI_1 i]
    have no : (decide (R i = 2) || (decide (R i = 1) == paB V (V 9 w) (V 10 i) (V 11 i) h lm)) = false → some (0 : Int32) = some (bI (soB V R w h lm n)) := fun q => by
      unfold soB
      rw [alB_no hlt q]
      rfl
    have yes : (decide (R i = 2) || (decide (R i = 1) == paB V (V 9 w) (V 10 i) (V 11 i) h lm)) = true → soB V R w h lm (i + 1) = true := fun q => by
      unfold soB at ha ⊢
      rw [alB, ha, q]
      rfl
    by_cases c2 : R i = 2
    · rw [if_pos (show (2 : Int32) ≤ nI (R i) by rw [c2]; decide)]
      exact Or.inr ⟨hlt, _, ⟨rfl, yes (by simp [c2])⟩, rfl⟩
    · rw [if_neg (show ¬ (2 : Int32) ≤ nI (R i) from nI_ge (b := 2) (by omega) (by decide))]
      by_cases c1 : R i = 1
      · rw [if_pos (show nI (R i) = (1 : Int32) by rw [c1]; rfl)]
        cases hq : paB V (V 9 w) (V 10 i) (V 11 i) h lm with
        | true =>
          rw [if_pos (by decide)]
          exact Or.inr ⟨hlt, _, ⟨rfl, yes (by rw [hq]; simp [c1])⟩, rfl⟩
        | false =>
          rw [if_neg (by decide)]
          exact Or.inl (no (by rw [hq]; simp [c1]))
      · rw [if_neg (fun q : nI (R i) = (1 : Int32) => c1 ((nI_eq (b := 1) (by omega) (by decide)).mp q))]
        cases hq : paB V (V 9 w) (V 10 i) (V 11 i) h lm with
        | true =>
          rw [if_neg (by decide)]
          exact Or.inl (no (by rw [hq]; simp [c1, c2]))
        | false =>
          rw [if_pos (by decide)]
          exact Or.inr ⟨hlt, _, ⟨rfl, yes (by rw [hq]; simp [c1])⟩, rfl⟩
theorem when_M {V : Nat → Nat → Nat} {R : Nat → Nat} {n : Nat} {S : OS} (hM : MR V S) (hB : WB V) (hL : WL V) (hS : S.1 26 = nI n) (hR : RW R n (S.2 25)) (hn : n ≤ V 2 0) (h2 : ∀ k, k < n → R k ≤ 2) {w : Nat} (hw : w < V 1 0) : f_X8_whenSo S (nI w) = some (nI (whN V R w n)) := by
  unfold f_X8_whenSo
  refine lp_run2 24 (fun i a s => a = nI (bs (fun h => soB V R w h (V 4 0) n) i) ∧ s = nI i) _ ?_ FU 0 _ _ (Nat.zero_le _) ⟨rfl, rfl⟩ (by rw [FU_1000]; omega)
  rintro k i a s hi ⟨rfl, rfl⟩
  unfold b_X8_whenSo_4 j_X8_whenSo_27
  by_cases e : i = 24
  · left
    subst e
    rw [if_pos (by decide)]
    rfl
  · have hlt : i < 24 := by omega
    rw [if_neg (show ¬ (24 : Int32) ≤ nI i from nI_ge (b := 24) hlt (by decide)), so_M (MR_ML hM) hB hL hL.2.1 hS hR hn h2 hw hlt, Option.bind_some, if_bI, show nI i + (1 : Int32) = nI (i + 1) from nI_1 i]
    refine Or.inr ⟨hlt, ?_⟩
    by_cases e2 : soB V R w i (V 4 0) n = true
    · rw [if_pos e2, sh1 i (by omega), or_nI]
      exact ⟨_, _, ⟨by rw [bs, if_pos e2], rfl⟩, rfl⟩
    · rw [if_neg e2]
      exact ⟨_, _, ⟨by rw [bs, if_neg e2]; exact or_nI _ 0, rfl⟩, rfl⟩
theorem so_iff {V : Nat → Nat → Nat} {R : Nat → Nat} {w m : Nat} (hm : m ≤ 99) : ∀ {n : Nat}, (∀ k, k < n → R k ≤ 2) → (soB V R w (V 3 0) m n = true ↔ loL V R w n ≤ m ∧ m < hiL V R w n)
  | 0, _ => ⟨fun _ => ⟨Nat.zero_le _, by show m < 100; omega⟩, fun _ => rfl⟩
  | n + 1, h2 => by
    have ih := so_iff (V := V) (R := R) (w := w) hm (n := n) (fun k hk => h2 k (by omega))
    have h3 := h2 n (by omega)
    have hp := ltp_pa (V := V) (bits := V 9 w) (sk := V 10 n) (kn := V 11 n) (h := V 3 0) hm
    unfold soB at ih ⊢
    rw [alB, Bool.and_eq_true, ih, loL, hiL, ← hp]
    rcases (by omega : R n = 0 ∨ R n = 1 ∨ R n = 2) with c | c | c
    · simp only [c, Nat.lt_min, ↓reduceIte]
      simp
      omega
    · simp only [c, Nat.max_le, ↓reduceIte]
      simp
      omega
    · simp [c]
theorem strict_M {V : Nat → Nat → Nat} {R : Nat → Nat} {n : Nat} {S : OS} {what : Int32} (hM : MR V S) (hB : WB V) (hL : WL V) (hS : S.1 26 = nI n) (hR : RW R n (S.2 25)) (hn : n ≤ V 2 0) (h2 : ∀ k, k < n → R k ≤ 2) {w : Nat} (hw : w < V 1 0) : Lp3 (b_X8_strict_71 (nI w) what (S.1 11)) FU 0 (-9) (su S 11 99) = some (if what = 0 then nI (limN V R w n) else leaA V R w n, S) := by
  have hh := hiL_le (V := V) (R := R) (w := w) n
  refine lp_run3 100 (fun i a b t => a = nI (hiL V R w n - max (loL V R w n) (100 - i)) ∧ b = (if max (loL V R w n) (100 - i) < hiL V R w n then nI (max (loL V R w n) (100 - i)) else -9) ∧ t = su S 11 (nI (100 - i) - 1)) _ ?_ FU 0 _ _ _ (Nat.zero_le _) ⟨by rw [show hiL V R w n - max (loL V R w n) (100 - 0) = 0 by omega]; rfl, by rw [if_neg (by omega)], by rw [show 100 - 0 = 99 + 1 from rfl, m1_add]; rfl⟩ (by rw [FU_1000]; omega)
  rintro k i a b t hi ⟨rfl, rfl, rfl⟩
  unfold b_X8_strict_71
  by_cases e : i = 100
  · left
    subst e
    rw [su_s, if_pos (by decide)]
    unfold j_X8_strict_115
    rw [su_up, su_id rfl, Nat.sub_self, Nat.max_eq_left (Nat.zero_le _)]
    by_cases ew : what = 0
    · rw [if_pos ew, if_pos ew]; rfl
    · rw [if_neg ew, if_neg ew]
      unfold leaA limN
      by_cases e3 : loL V R w n < hiL V R w n
      · rw [if_pos e3, if_pos (by omega)]
      · rw [if_neg e3, if_neg (by omega)]
  · have hlt : i < 100 := by omega
    obtain ⟨m, hm⟩ : ∃ m, 100 - i = m + 1 := ⟨99 - i, by omega⟩
    have hm99 : m ≤ 99 := by omega
    have hi1 : 100 - (i + 1) = m := by omega
    rw [hi1, hm, m1_add, su_s, if_neg (nI_pos (by omega)), show (su S 11 (nI m)).1 10 = nI (V 3 0) from (MR_ML2 hM).2.2.1, so_M (MR_ML2 hM) hB hL hm99 (by rw [su_n (by decide)]; exact hS) hR hn h2 hw hL.1, Option.bind_some, if_bI]
    unfold j_X8_strict_102
    rw [su_s, su_up]
    refine Or.inr ⟨hlt, ?_⟩
    have hio := so_iff (V := V) (R := R) (w := w) hm99 h2
    by_cases q : soB V R w (V 3 0) m n = true
    · obtain ⟨q1, q2⟩ := hio.mp q
      rw [if_pos q]
      refine ⟨_, _, _, ⟨?_, ?_, rfl⟩, rfl⟩
      · rw [nI_1]; congr 1; omega
      · rw [if_pos (by omega)]; congr 1; omega
    · have hq : ¬ (loL V R w n ≤ m ∧ m < hiL V R w n) := fun z => q (hio.mpr z)
      rw [if_neg q]
      refine ⟨_, _, _, ⟨?_, ?_, rfl⟩, rfl⟩
      · congr 1; omega
      · by_cases c : max (loL V R w n) (m + 1) < hiL V R w n
        · rw [if_pos c, if_pos (by omega)]; congr 1; omega
        · rw [if_neg c, if_neg (by omega)]
theorem judge_M {V : Nat → Nat → Nat} {R : Nat → Nat} {n : Nat} {S : OS} (hM : MR V S) (hB : WB V) (hL : WL V) (hR : RW R n (S.2 25)) {l : Nat} (hl : l < 5) : Lp1 (b_X8_judge_26 (nI l) (nI n) S) FU 0 = some (ob (-9) (juN V R l n), S) := by
  have h8 := hB.1
  have h12 := hR.1
  refine lp_run1 n (fun i s => s = nI i ∧ ∀ j, j < i → (decide (V 0 0 ≤ j) || !decide (fs V (V 10 l) (V 11 l) (V 3 0) j = R j)) = false) _ ?_ FU 0 _ (Nat.zero_le _) ⟨rfl, fun j hj => by omega⟩ (by rw [FU_1000]; omega)
  rintro k i s hi ⟨rfl, hno⟩
  unfold b_X8_judge_26
  by_cases e1 : i = n
  · left
    subst e1
    rw [if_pos (nI_le (Nat.le_refl _) (by omega))]
    unfold juN
    rw [fst_no hno]
    rfl
  · have hlt : i < n := by omega
    obtain ⟨g1, g2⟩ := hR.2 i hlt
    rw [if_neg (nI_ge hlt (by omega)), hM.1 0 (by decide)]
    by_cases c1 : V 0 0 ≤ i
    · rw [if_pos (nI_le c1 (by omega))]
      left
      unfold juN
      rw [fst_at hno (by simp [c1]) hlt]
      rfl
    · have hf := fs_le hB (sk := V 10 l) (kn := V 11 l) (by omega : i < 8) hL.1
      rw [if_neg (nI_ge (by omega) (by omega)), show S.1 10 = nI (V 3 0) from hM.1 3 (by decide), finM hM hB hL hl (by omega) hL.1, Option.bind_some, inb_t (by omega : i < 12) (by decide), nI_clamp (by omega), g1]
      by_cases c2 : fs V (V 10 l) (V 11 l) (V 3 0) i = R i
      · rw [if_pos (congrArg nI c2)]
        refine Or.inr ⟨hlt, _, ⟨nI_1 i, fun j hj => ?_⟩, rfl⟩
        by_cases ej : j = i
        · subst ej; simp [c2]; omega
        · exact hno j (by omega)
      · rw [if_neg (fun q => c2 ((nI_eq (by omega) (by omega)).mp q))]
        left
        unfold juN
        rw [fst_at hno (by simp [c2]) hlt]
        rfl
