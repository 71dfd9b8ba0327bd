/-! PURE: the reference's questions: all of the learners -/
theorem many_M {V : Nat → Nat → Nat} {S : OS} (hM : MR V S) (hB : WB V) (hL : WL V) {w h : Nat} (hw : w < V 1 0) (hh : h < 24) : f_X8_manyPass S (nI w) (nI h) = some (nI (mpN V w h)) := by
  have h5 := hB.2.2.1
  unfold f_X8_manyPass
  refine lp_run2 (V 2 0) (fun i a s => a = nI (cnB (fun l => paB V (V 9 w) (V 10 l) (V 11 l) h (V 4 0)) i) ∧ s = nI i) _ ?_ FU 0 _ _ (Nat.zero_le _) ⟨rfl, rfl⟩ (by rw [FU_1000]; omega)
  rintro k i a s hi ⟨rfl, rfl⟩
  unfold b_X8_manyPass_5 j_X8_manyPass_31
  rw [hM.1 2 (by decide)]
  by_cases e : i = V 2 0
  · left
    subst e
    rw [if_pos (nI_le (Nat.le_refl _) (by omega))]
    rfl
  · have hlt : i < V 2 0 := by omega
    rw [if_neg (nI_ge hlt (by omega)), pwM hM hB hL (by omega) hw hh, Option.bind_some, if_bI, show nI i + (1 : Int32) = nI (i + 1) from nI_1 i]
    refine Or.inr ⟨hlt, ?_⟩
    by_cases e2 : paB V (V 9 w) (V 10 i) (V 11 i) h (V 4 0) = true
    · rw [if_pos e2]
      exact ⟨_, _, ⟨by rw [cnB, if_pos e2]; exact nI_1 _, rfl⟩, rfl⟩
    · rw [if_neg e2]
      exact ⟨_, _, ⟨by rw [cnB, if_neg e2, Nat.add_zero]; exact nI_add _ 0, rfl⟩, rfl⟩
theorem rush_M {V : Nat → Nat → Nat} {S : OS} (hM : MR V S) (hB : WB V) (hL : WL V) {w : Nat} {what : Int32} (hw : w < V 1 0) : Lp2 (b_X8_rush_44 (nI w) what S) FU 0 1 = some (if what = 0 then ob 0 (rhN V w) else vo 0 (mpN V w) (rhN V w), S) := by
  refine Eq.trans (sh_from0 (f := mpN V w) (n := 24) (ex := fun b => j_X8_rush_83 (nI w) what b S) (by decide) (by decide) ?_ ?_) ?_
  · intro k b hb
    unfold b_X8_rush_44
    rw [if_pos (by decide)]
  · intro k b i hi hb
    have f1 := mpN_le hB (w := w) (h := i)
    have f2 := mpN_le hB (w := w) (h := b)
    unfold b_X8_rush_44 j_X8_rush_75
    rw [if_neg (show ¬ (24 : Int32) ≤ nI i from nI_ge (b := 24) hi (by decide)), many_M hM hB hL hw hi, Option.bind_some, many_M hM hB hL hw (by omega), Option.bind_some, show nI i + (1 : Int32) = nI (i + 1) from nI_1 i]
    by_cases e : mpN V w i ≤ mpN V w b
    · rw [if_pos (nI_le e (by omega)), if_pos e]
    · rw [if_neg (nI_ge (by omega) (by omega)), if_neg e]
  · show j_X8_rush_83 (nI w) what (ob 0 (rhN V w)) S = _
    unfold j_X8_rush_83
    obtain ⟨b, hb⟩ := amo_some (bet := gtF (mpN V w)) (p := fun _ => true) (n := 24) (i := 0) (by decide) rfl
    have hb2 := (amo_ok hb).1
    have hb' : rhN V w = some b := hb
    rw [hb', show ob 0 (some b) = nI b from rfl]
    by_cases e : what = 0
    · rw [if_pos e, if_pos e]
    · rw [if_neg e, if_neg e, many_M hM hB hL hw hb2, Option.bind_some]
      rfl
theorem ahead_M {V : Nat → Nat → Nat} {S : OS} (hM : MR V S) (hB : WB V) (hL : WL V) {w l : Nat} (hw : w < V 1 0) (hl : l < V 2 0) : f_X8_aheadOf S (nI l) (nI w) = some (nI (ahN V w l)) := by
  have h5 := hB.2.2.1
  have hh := hL.1
  have hth := WB_th hB hw
  have fle := fun l => fo_le hB (bits := V 9 w) (sk := V 10 l) (kn := V 11 l) hh
  have e10 : S.1 10 = nI (V 3 0) := hM.1 3 (by decide)
  unfold f_X8_aheadOf
  refine lp_run2 (V 2 0) (fun i a s => a = nI (cnB (fun k => decide (foH V w k < foH V w l) || (decide (foH V w k = foH V w l) && decide (k < l))) i) ∧ s = nI i) _ ?_ FU 0 _ _ (Nat.zero_le _) ⟨rfl, rfl⟩ (by rw [FU_1000]; omega)
  rintro k i a s hi ⟨rfl, rfl⟩
  unfold b_X8_aheadOf_5 j_X8_aheadOf_65 j_X8_aheadOf_69 j_X8_aheadOf_70
  rw [hM.1 2 (by decide)]
  by_cases e : i = V 2 0
  · left
    subst e
    rw [if_pos (nI_le (Nat.le_refl _) (by omega))]
    rfl
  · have hlt : i < V 2 0 := by omega
    have f1 : foH V w i ≤ 176 := fle i
    have f2 : foH V w l ≤ 176 := fle l
    rw [if_neg (nI_ge hlt (by omega)), if_pos (ibw hB hw), thM hM hB hw, e10, foM hM hB hL (by omega) (by omega) hh, Option.bind_some, if_pos (ibw hB hw), foM hM hB hL (by omega) (by omega) hh, Option.bind_some, show fo V (V 9 w) (V 10 i) (V 11 i) (V 3 0) = foH V w i from rfl, show fo V (V 9 w) (V 10 l) (V 11 l) (V 3 0) = foH V w l from rfl, show nI i + (1 : Int32) = nI (i + 1) from nI_1 i]
    refine Or.inr ⟨hlt, ?_⟩
    by_cases c1 : foH V w i < foH V w l
    · rw [pk_sub (by omega), if_pos (show (0 : Int32) < _ from nI_lt (a := 0) (by omega) (by omega))]
      exact ⟨_, _, ⟨by rw [cnB]; simp [c1]; exact nI_1 _, rfl⟩, rfl⟩
    · by_cases c2 : foH V w i = foH V w l
      · rw [c2, pk_sub (Nat.le_refl _), Nat.sub_self, if_neg (by decide), if_pos (by decide)]
        by_cases c3 : i < l
        · rw [if_neg (nI_ge c3 (by omega))]
          exact ⟨_, _, ⟨by rw [cnB]; simp [c2, c3]; exact nI_1 _, rfl⟩, rfl⟩
        · rw [if_pos (nI_le (by omega) (by omega))]
          exact ⟨_, _, ⟨by rw [cnB]; simp [c2, c3], rfl⟩, rfl⟩
      · have hneg : ∀ d, d < 177 → 0 < d → ¬ (0 : Int32) < -nI d ∧ ¬ -nI d = 0 := by decide +kernel
        have hd : nI (foH V w l) - nI (foH V w i) = -nI (foH V w i - foH V w l) := by
          have := nI_add (foH V w l) (foH V w i - foH V w l)
          rw [show foH V w l + (foH V w i - foH V w l) = foH V w i by omega] at this
          rw [← this]; simp only [Int32.sub_eq_add_neg, Int32.neg_add, ← Int32.add_assoc, Int32.add_right_neg, Int32.zero_add]
        obtain ⟨g1, g2⟩ := hneg (foH V w i - foH V w l) (by omega) (by omega)
        rw [hd, if_neg g1, if_neg g2]
        exact ⟨_, _, ⟨by rw [cnB]; simp [c1, c2], rfl⟩, rfl⟩
theorem rank_M {V : Nat → Nat → Nat} {S : OS} (hM : MR V S) (hB : WB V) (hL : WL V) {w : Nat} {i : Int32} (hw : w < V 1 0) : Lp1 (b_X8_rank_36 (nI w) i S) FU 0 = some (ob (-9) (rkN V w i), S) := by
  have h5 := hB.2.2.1
  refine lp_run1 (V 2 0) (fun k s => s = nI k ∧ ∀ j, j < k → decide (nI (ahN V w j) = i) = false) _ ?_ FU 0 _ (Nat.zero_le _) ⟨rfl, fun j hj => by omega⟩ (by rw [FU_1000]; omega)
  rintro kk k s hk ⟨rfl, hno⟩
  unfold b_X8_rank_36
  rw [hM.1 2 (by decide)]
  by_cases e : k = V 2 0
  · left
    subst e
    rw [if_pos (nI_le (Nat.le_refl _) (by omega))]
    unfold rkN
    rw [fst_no hno]
    rfl
  · have hlt : k < V 2 0 := by omega
    rw [if_neg (nI_ge hlt (by omega)), ahead_M hM hB hL hw hlt, Option.bind_some]
    by_cases e2 : nI (ahN V w k) = i
    · left
      rw [if_pos e2]
      unfold rkN
      rw [fst_at hno (decide_eq_true e2) hlt]
      rfl
    · rw [if_neg e2]
      refine Or.inr ⟨hlt, _, ⟨nI_1 k, fun j hj => ?_⟩, rfl⟩
      by_cases ej : j = k
      · subst ej; exact decide_eq_false e2
      · exact hno j (by omega)
theorem wlM {V : Nat → Nat → Nat} {S : OS} (hM : MR V S) (hB : WB V) (hL : WL V) {l : Nat} (hl : l < 5) : f_X8_passedWays S (nI l) (S.1 10) = some (nI (wlN V l)) := by
  rw [show S.1 10 = nI (V 3 0) from hM.1 3 (by decide)]
  exact wpM hM hB hL hl hL.1
theorem equal_M {V : Nat → Nat → Nat} {S : OS} (hM : MR V S) (hB : WB V) (hL : WL V) : f_X8_equal S = some (nI (eqO V (V 2 0))) := by
  have h5 := hB.2.2.1
  unfold f_X8_equal
  refine lp_run2 (V 2 0) (fun i a s => a = nI (eqO V i) ∧ s = nI i) _ ?_ FU 0 _ _ (Nat.zero_le _) ⟨rfl, rfl⟩ (by rw [FU_1000]; omega)
  rintro k a m s hi ⟨rfl, rfl⟩
  unfold b_X8_equal_4
  rw [hM.1 2 (by decide)]
  by_cases e : a = V 2 0
  · left
    subst e
    rw [if_pos (nI_le (Nat.le_refl _) (by omega))]
  · have hlt : a < V 2 0 := by omega
    rw [if_neg (nI_ge hlt (by omega)), show nI a + (1 : Int32) = nI (a + 1) from nI_1 a]
    refine Or.inr ⟨hlt, _, _, ⟨rfl, rfl⟩, ?_⟩
    refine lp_run2 (V 2 0 - (a + 1)) (fun i m s => m = nI (eqI V a (eqO V a) i) ∧ s = nI (a + 1 + i)) _ ?_ FU 0 _ _ (Nat.zero_le _) ⟨rfl, rfl⟩ (by rw [FU_1000]; omega)
    rintro k2 i m s hi2 ⟨rfl, rfl⟩
    unfold b_X8_equal_16 j_X8_equal_59 j_X8_equal_51
    rw [hM.1 2 (by decide)]
    by_cases e2 : i = V 2 0 - (a + 1)
    · left
      subst e2
      rw [if_pos (nI_le (by omega) (by omega)), show nI a + (1 : Int32) = nI (a + 1) from nI_1 a]
      rfl
    · have hb : a + 1 + i < V 2 0 := by omega
      have w1 := wp_lt hB (sk := V 10 a) (kn := V 11 a) (h := V 3 0) (lm := V 4 0)
      have w2 := wp_lt hB (sk := V 10 (a + 1 + i)) (kn := V 11 (a + 1 + i)) (h := V 3 0) (lm := V 4 0)
      rw [if_neg (nI_ge hb (by omega)), wlM hM hB hL (by omega), Option.bind_some, wlM hM hB hL (by omega), Option.bind_some, show nI (a + 1 + i) + (1 : Int32) = nI (a + 1 + (i + 1)) from nI_1 _]
      refine Or.inr ⟨by omega, ?_⟩
      by_cases e3 : wlN V a = wlN V (a + 1 + i)
      · rw [if_pos (congrArg nI e3)]
        exact ⟨_, _, ⟨by rw [eqI, if_pos e3]; exact nI_1 _, rfl⟩, rfl⟩
      · rw [if_neg (fun q => e3 ((nI_eq (by unfold wlN; omega) (by unfold wlN; omega)).mp q))]
        exact ⟨_, _, ⟨by rw [eqI, if_neg e3, Nat.add_zero]; exact nI_add _ 0, rfl⟩, rfl⟩
/-! state put and taken back -/
theorem sa_up {S : OS} {k i : Nat} {x y : Int32} : sa (sa S k (upd (S.2 k) i x)) k (upd ((sa S k (upd (S.2 k) i x)).2 k) i y) = sa S k (upd (S.2 k) i y) := by
  obtain ⟨a, b⟩ := S
  show ((a, upA (upA b k _) k _) : OS) = (a, upA b k _)
  congr 1
  funext j
  by_cases h : j = k
  · subst h
    rw [upA_s, upA_s]
    funext m
    by_cases h2 : m = i
    · subst h2; rw [upd_s, upd_s]
    · rw [upd_n h2, upd_n h2, sa_s, upd_n h2]
  · rw [upA_n h, upA_n h, upA_n h]
theorem sa_id {S : OS} {k i : Nat} {x : Int32} (h : S.2 k i = x) : sa S k (upd (S.2 k) i x) = S := by
  obtain ⟨a, b⟩ := S
  show ((a, upA b k _) : OS) = (a, b)
  congr 1
  funext j
  by_cases e : j = k
  · subst e
    rw [upA_s]
    funext m
    by_cases h2 : m = i
    · subst h2; rw [upd_s]; exact h.symm
    · rw [upd_n h2]
  · rw [upA_n e]
theorem fst_up {p : Nat → Bool} {i n j : Nat} (h : fst p i = some j) (hn : i ≤ n) : fst p n = some j := by
  obtain ⟨h1, h2, h3⟩ := fst_ok h
  exact fst_at h3 h2 (by omega)
theorem skill_M {V : Nat → Nat → Nat} {S : OS} (hM : MR V S) (hB : WB V) (hL : WL V) {l w h : Nat} (hl : l < 5) (hw : w < V 1 0) (hh : h < 24) : Lp3 (b_X8_skillWanted_31 (nI l) (nI w) (nI h) (nI (V 10 l))) FU (-9) 0 S = some (ob (-9) (skN V l w h), S) := by
  have hk := kn_lt hB hL hl
  have e10 : S.2 5 l = nI (V 10 l) := hM.2 10 (by decide) (by decide) l hl
  have e11 : S.2 6 l = nI (V 11 l) := hM.2 11 (by decide) (by decide) l hl
  have g3 : S.1 11 = nI (V 4 0) := hM.1 4 (by decide)
  have fin : ∀ (x : Int32) (o : Option Nat), fst (fun sk => paB V (V 9 w) sk (V 11 l) h (V 4 0)) 10 = o → j_X8_skillWanted_76 (nI l) (nI (V 10 l)) (ob (-9) o) (sa S 5 (upd (S.2 5) l x)) = some (ob (-9) (skN V l w h), S) := by
    intro x o ho
    subst ho
    unfold j_X8_skillWanted_76
    rw [inb_t hl (by decide), nI_clamp (by omega), sa_up, sa_id e10]
    rfl
  refine lp_run3 10 (fun i b s t => b = ob (-9) (fst (fun sk => paB V (V 9 w) sk (V 11 l) h (V 4 0)) i) ∧ s = nI i ∧ ∃ x, t = sa S 5 (upd (S.2 5) l x)) _ ?_ FU 0 _ _ _ (Nat.zero_le _) ⟨rfl, rfl, nI (V 10 l), (sa_id e10).symm⟩ (by rw [FU_1000]; omega)
  rintro k i b s t hi ⟨rfl, rfl, x, rfl⟩
  unfold b_X8_skillWanted_31
  by_cases e : i = 10
  · left
    subst e
    rw [if_pos (by decide)]
    exact fin x _ rfl
  · have hlt : i < 10 := by omega
    rw [if_neg (show ¬ (10 : Int32) ≤ nI i from nI_ge (b := 10) hlt (by decide))]
    cases ho : fst (fun sk => paB V (V 9 w) sk (V 11 l) h (V 4 0)) i with
    | some j =>
      left
      have hj := (fst_ok ho).1
      rw [if_pos (show 0 ≤ ob (-9) (some j) from nI_pos' (by omega))]
      exact fin x _ (fst_up ho (by omega))
    | none =>
      rw [if_neg (by decide), inb_t hl (by decide), nI_clamp (by omega), sa_up]
      unfold j_X8_skillWanted_68
      rw [pw_M (MB_sa (MR_MB hM) (by decide)) hB hl hw hh (by rw [sa_s, upd_s]) (by rw [sa_n (by decide)]; exact e11) (by omega) hk g3 hL.2.1, Option.bind_some, if_bI, show nI i + (1 : Int32) = nI (i + 1) from nI_1 i]
      refine Or.inr ⟨hlt, ?_⟩
      by_cases q : paB V (V 9 w) i (V 11 l) h (V 4 0) = true
      · rw [if_pos q]
        exact ⟨_, _, _, ⟨by rw [fst, ho]; simp only [if_pos q]; rfl, rfl, _, rfl⟩, rfl⟩
      · rw [if_neg q]
        exact ⟨_, _, _, ⟨by rw [fst, ho]; simp only [if_neg q]; rfl, rfl, _, rfl⟩, rfl⟩
