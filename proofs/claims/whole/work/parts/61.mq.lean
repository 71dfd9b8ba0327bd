/-! PURE: the reference's questions, on -/
theorem sh_best3 {ρ σ : Type} {body : (Int32 → Int32 → σ → Option ρ) → Int32 → Int32 → σ → Option ρ} {st : σ} {n : Nat} {bet : Nat → Nat → Bool} {p : Nat → Bool} {ex : Int32 → Option ρ} (hn : n < 1000)
    (hend : ∀ k o, (∀ b, o = some b → b < n ∧ p b = true) → body k (ob (-9) o) (nI n) st = ex (ob (-9) o)) (hstep : ∀ k o i, i < n → (∀ b, o = some b → b < i ∧ p b = true) → body k (ob (-9) o) (nI i) st = k (ob (-9) (amS bet p o i)) (nI (i + 1)) st) : Lp3 body FU (-9) 0 st = ex (ob (-9) (amo bet p n)) := by
  refine lp_run3 n (fun i b s t => b = ob (-9) (amo bet p i) ∧ s = nI i ∧ t = st) _ ?_ FU 0 _ _ _ (Nat.zero_le _) ⟨rfl, rfl, rfl⟩ (by rw [FU_1000]; omega)
  rintro k i b s t hi ⟨rfl, rfl, rfl⟩
  by_cases e : i = n
  · left
    subst e
    exact hend _ _ (fun b hb => amo_ok hb)
  · right
    have hlt : i < n := by omega
    exact ⟨hlt, _, _, _, ⟨rfl, rfl, rfl⟩, by rw [hstep _ _ _ hlt (fun b hb => amo_ok hb)]; rfl⟩
/-- best from the first on -/
theorem sh_from0 {ρ : Type} {body : (Int32 → Int32 → Option ρ) → Int32 → Int32 → Option ρ} {n : Nat} {f : Nat → Nat} {ex : Int32 → Option ρ} (h1 : 1 ≤ n) (hn : n < 1000)
    (hend : ∀ k b, b < n → body k (nI b) (nI n) = ex (nI b)) (hstep : ∀ k b i, i < n → b < i → body k (nI b) (nI i) = if f i ≤ f b then k (nI b) (nI (i + 1)) else k (nI i) (nI (i + 1))) : Lp2 body FU 0 1 = ex (ob 0 (amo (gtF f) (fun _ => true) n)) := by
  refine lp_run2 n (fun i b s => 1 ≤ i ∧ b = ob 0 (amo (gtF f) (fun _ => true) i) ∧ s = nI i) _ ?_ FU 1 _ _ h1 ⟨Nat.le_refl _, rfl, rfl⟩ (by rw [FU_1000]; omega)
  rintro k i b s hi ⟨h0, rfl, rfl⟩
  obtain ⟨b, hb⟩ := amo_some (bet := gtF f) (p := fun _ => true) (n := i) (i := 0) (by omega) rfl
  have hbi := (amo_ok hb).1
  rw [hb]
  by_cases e : i = n
  · left
    subst e
    rw [hb]
    exact hend _ _ hbi
  · right
    have hlt : i < n := by omega
    refine ⟨hlt, ob 0 (amo (gtF f) (fun _ => true) (i + 1)), nI (i + 1), ⟨by omega, rfl, rfl⟩, ?_⟩
    rw [show ob 0 (some b) = nI b from rfl, hstep _ _ _ hlt hbi, amo, hb]
    by_cases e2 : f i ≤ f b
    · rw [if_pos e2, amS_f (by exact dcF e2)]; rfl
    · rw [if_neg e2, amS_t rfl (by exact dcT e2)]; rfl
theorem learn_M {V : Nat → Nat → Nat} {S : OS} (hM : MR V S) (hB : WB V) (hL : WL V) {l h : Nat} {way : Option Nat} (hl : l < 5) (hw : ∀ w, way = some w → w < V 1 0) (hh : h < 24) : Lp3 (b_X8_learn_41 (nI l) (ob (-1) way) (nI h)) FU (-9) 0 S = some (ob (-9) (amo (ltF (pc 8)) (fun m => decide (m &&& V 11 l = 0) && paK V l way h m) (2 ^ V 0 0)), S) := by
  have h8 := hB.1
  have hp := p2_8 h8
  have hk := kn_lt hB hL hl
  refine sh_best3 (ex := fun b => some (b, S)) (by omega) ?_ ?_
  · intro k o ho
    unfold b_X8_learn_41
    rw [hM.1 0 (by decide), sh1 _ (by omega), if_pos (nI_le (Nat.le_refl _) (by omega))]
  · intro k o i hi ho
    have hi8 : i < 256 := by omega
    have e11 : S.2 6 l = nI (V 11 l) := hM.2 11 (by decide) (by decide) l hl
    unfold b_X8_learn_41 j_X8_learn_85 j_X8_learn_101
    rw [hM.1 0 (by decide), sh1 _ (by omega), if_neg (nI_ge hi (by omega)), inb_t hl (by decide), nI_clamp (by omega), e11, and_nI, show nI i + (1 : Int32) = nI (i + 1) from nI_1 i]
    by_cases e : i &&& V 11 l = 0
    · rw [if_pos (show nI (i &&& V 11 l) = (0 : Int32) from congrArg nI e), pk_M hM hB hL hl hw hh hi8]
      have pp : (fun m => decide (m &&& V 11 l = 0) && paK V l way h m) i = paK V l way h i := by
        show (decide (i &&& V 11 l = 0) && paK V l way h i) = _
        rw [decide_eq_true e, Bool.true_and]
      simp only [Option.bind_some, if_bI]
      cases o with
      | none =>
        rw [if_pos (show ob (-9) none < 0 by decide)]
        by_cases q : paK V l way h i = true
        · rw [if_pos q, amS_n (pp.trans q)]; rfl
        · rw [if_neg q, amS_p (pp.trans (by simpa using q))]
      | some b =>
        obtain ⟨h1, h2⟩ := ho b rfl
        have f1 := pc_le 8 i
        have f2 := pc_le 8 b
        rw [show ob (-9) (some b) = nI b from rfl, if_neg (nI_pos (by omega)), bc_M i hi8, bc_M b (by omega)]
        simp only [Option.bind_some]
        by_cases e2 : pc 8 b ≤ pc 8 i
        · rw [if_neg (nI_nlt e2 (by omega)), amS_f (by exact dcF e2)]; rfl
        · rw [if_pos (nI_lt (by omega) (by omega))]
          by_cases q : paK V l way h i = true
          · rw [if_pos q, amS_t (pp.trans q) (by exact dcT e2)]; rfl
          · rw [if_neg q, amS_p (pp.trans (by simpa using q))]; rfl
    · have e' : ¬ nI (i &&& V 11 l) = (0 : Int32) := nI_ne0 (by omega) (Nat.lt_of_le_of_lt Nat.and_le_left (by omega))
      rw [if_neg e', amS_p (by show (decide (i &&& V 11 l = 0) && _) = false; rw [decide_eq_false e]; rfl)]
/-- the ways asked for, as a set -/
def swN (V : Nat → Nat → Nat) : Option Nat → Nat
  | none => 2 ^ V 1 0 - 1
  | some w => 2 ^ w
theorem swN_ps {V : Nat → Nat → Nat} {way : Option Nat} {l h m : Nat} (hw : ∀ w, way = some w → w < V 1 0) : psN V (swN V way) (V 10 l) (V 11 l ||| m) h = paK V l way h m := by
  cases way with
  | none =>
    refine alB_cg fun i hi => ?_
    show (!(2 ^ V 1 0 - 1).testBit i || _) = _
    rw [Nat.testBit_two_pow_sub_one, decide_eq_true hi]; rfl
  | some w =>
    have hlt := hw w rfl
    show alB _ _ = paB V (V 9 w) (V 10 l) (V 11 l ||| m) h (V 4 0)
    cases e : paB V (V 9 w) (V 10 l) (V 11 l ||| m) h (V 4 0) with
    | true =>
      refine alB_of fun i hi => ?_
      show (!(2 ^ w).testBit i || _) = true
      by_cases q : w = i
      · subst q; rw [e, Bool.or_true]
      · rw [Nat.testBit_two_pow, decide_eq_false q]; rfl
    | false =>
      refine alB_no hlt ?_
      show (!(2 ^ w).testBit w || _) = false
      rw [Nat.testBit_two_pow, decide_eq_true rfl, e]; rfl
theorem learn_e {V : Nat → Nat → Nat} {way : Option Nat} {l h : Nat} (hw : ∀ w, way = some w → w < V 1 0) : amo (ltF (pc 8)) (fun m => decide (m &&& V 11 l = 0) && paK V l way h m) (2 ^ V 0 0) = lnN V l (swN V way) h :=
  amo_cg (fun i _ => by rw [swN_ps hw]) (fun _ _ _ _ _ _ => rfl)
/-! toughest hour, longest way -/
theorem tough_M {V : Nat → Nat → Nat} {S : OS} (hM : MR V S) (hB : WB V) {w : Nat} (hw : w < V 1 0) : Lp2 (b_X8_toughest_18 (nI w) S) FU 0 1 = some (ob 0 (hhN V w), S) := by
  have hth := WB_th hB hw
  refine sh_from0 (f := fun h => ho V (V 9 w) h) (n := 24) (ex := fun b => some (b, S)) (by decide) (by decide) ?_ ?_
  · intro k b hb
    unfold b_X8_toughest_18
    rw [if_pos (by decide)]
  · intro k b i hi hb
    have f1 := ho_le hB (bits := V 9 w) hi
    have f2 := ho_le hB (bits := V 9 w) (show b < 24 by omega)
    unfold b_X8_toughest_18 j_X8_toughest_54
    rw [if_neg (show ¬ (24 : Int32) ≤ nI i from nI_ge (b := 24) hi (by decide)), if_pos (ibw hB hw), thM hM hB hw, ho_M (MR_MB hM) hB (by omega) hi, Option.bind_some, if_pos (ibw hB hw), ho_M (MR_MB hM) hB (by omega) (by omega), Option.bind_some, show nI i + (1 : Int32) = nI (i + 1) from nI_1 i]
    by_cases e : ho V (V 9 w) i ≤ ho V (V 9 w) b
    · rw [if_pos (nI_le e (by omega)), if_pos e]
    · rw [if_neg (nI_ge (by omega) (by omega)), if_neg e]
theorem long_M {V : Nat → Nat → Nat} {S : OS} (hM : MR V S) (hB : WB V) {what : Int32} : Lp2 (b_X8_longest_21 what S) FU (-9) 0 = some (if what = 0 then ob (-9) (loN V) else vo (-9) (fun w => mo V (V 9 w)) (loN V), S) := by
  have h6 := hB.2.1
  refine Eq.trans (sh_best (bet := gtF (fun w => mo V (V 9 w))) (p := fun _ => true) (n := V 1 0) (ex := fun b => j_X8_longest_68 what b S) (by omega) ?_ ?_) ?_
  · intro k o ho
    unfold b_X8_longest_21
    rw [hM.1 1 (by decide), if_pos (nI_le (Nat.le_refl _) (by omega))]
  · intro k o i hi ho
    unfold b_X8_longest_21 j_X8_longest_56 j_X8_longest_61
    rw [hM.1 1 (by decide), if_neg (nI_ge hi (by omega)), show nI i + (1 : Int32) = nI (i + 1) from nI_1 i]
    cases o with
    | none => rw [if_pos (by decide), amS_n rfl]; rfl
    | some b =>
      obtain ⟨h1, h2⟩ := ho b rfl
      have f1 := mo_le hB (bits := V 9 i)
      have f2 := mo_le hB (bits := V 9 b)
      have g1 := WB_th hB hi
      have g2 := WB_th hB (by omega : b < V 1 0)
      rw [show ob (-9) (some b) = nI b from rfl, if_neg (nI_pos (by omega)), if_pos (ibw hB hi), thM hM hB hi, mo_M (MR_MB hM) hB (by omega), Option.bind_some, if_pos (ibw hB (by omega)), thM hM hB (by omega), mo_M (MR_MB hM) hB (by omega), Option.bind_some]
      by_cases e2 : mo V (V 9 i) ≤ mo V (V 9 b)
      · rw [if_pos (nI_le e2 (by omega)), amS_f (by exact dcF e2)]; rfl
      · rw [if_neg (nI_ge (by omega) (by omega)), amS_t rfl (by exact dcT e2)]; rfl
  · show j_X8_longest_68 what (ob (-9) (loN V)) S = _
    unfold j_X8_longest_68
    by_cases e : what = 0
    · rw [if_pos e, if_pos e]
    · rw [if_neg e, if_neg e]
      cases ho : loN V with
      | none => rfl
      | some b =>
        obtain ⟨h1, -⟩ := amo_ok ho
        have g2 := WB_th hB h1
        rw [show ob (-9) (some b) = nI b from rfl, if_pos (nI_pos' (by omega)), if_pos (ibw hB h1), thM hM hB h1, mo_M (MR_MB hM) hB (by omega), Option.bind_some]
        rfl
