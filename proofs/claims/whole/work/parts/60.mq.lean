/-! PURE: the reference's questions -/
theorem dcF {a b : Nat} (h : b ≤ a) : decide (a < b) = false := decide_eq_false (Nat.not_lt.mpr h)
theorem dcT {a b : Nat} (h : ¬ b ≤ a) : decide (a < b) = true := decide_eq_true (Nat.lt_of_not_le h)
theorem finM {V : Nat → Nat → Nat} {S : OS} (hM : MR V S) (hB : WB V) (hL : WL V) {l s h : Nat} (hl : l < 5) (hs : s < 8) (hh : h < 24) : f_X8_faultsIn S (nI l) (nI s) (nI h) = some (nI (fs V (V 10 l) (V 11 l) h s)) := fin_M (MR_MB hM) hB hl hs hh (hM.2 10 (by decide) (by decide) l hl) (hM.2 11 (by decide) (by decide) l hl) (hL.2.2.2 l hl).1 (kn_lt hB hL hl)
theorem foM {V : Nat → Nat → Nat} {S : OS} (hM : MR V S) (hB : WB V) (hL : WL V) {l bits h : Nat} (hl : l < 5) (hb : bits < 2 ^ 31) (hh : h < 24) : f_X8_faultsOn S (nI l) (nI bits) (nI h) = some (nI (fo V bits (V 10 l) (V 11 l) h)) := fo_M (MR_MB hM) hB hl hb hh (hM.2 10 (by decide) (by decide) l hl) (hM.2 11 (by decide) (by decide) l hl) (hL.2.2.2 l hl).1 (kn_lt hB hL hl)
theorem pwM {V : Nat → Nat → Nat} {S : OS} (hM : MR V S) (hB : WB V) (hL : WL V) {l w h : Nat} (hl : l < 5) (hw : w < V 1 0) (hh : h < 24) : f_X8_passesWay S (nI l) (nI w) (nI h) = some (bI (paB V (V 9 w) (V 10 l) (V 11 l) h (V 4 0))) := pw_M (MR_MB hM) hB hl hw hh (hM.2 10 (by decide) (by decide) l hl) (hM.2 11 (by decide) (by decide) l hl) (hL.2.2.2 l hl).1 (kn_lt hB hL hl) (hM.1 4 (by decide)) hL.2.1
theorem wpM {V : Nat → Nat → Nat} {S : OS} (hM : MR V S) (hB : WB V) (hL : WL V) {l h : Nat} (hl : l < 5) (hh : h < 24) : f_X8_passedWays S (nI l) (nI h) = some (nI (wp V (V 10 l) (V 11 l) h (V 4 0))) := wp_M (MR_MB hM) hB hl hh (hM.2 10 (by decide) (by decide) l hl) (hM.2 11 (by decide) (by decide) l hl) (hL.2.2.2 l hl).1 (kn_lt hB hL hl) (hM.1 4 (by decide)) hL.2.1
/-- a way's streets, read -/
theorem wayM {V : Nat → Nat → Nat} {S : OS} (hM : MR V S) (hB : WB V) {α : Type} {w : Nat} (hw : w < V 1 0) (o : Int32 → Option α) : (if inb (nI w) 6 = true then o (S.2 4 (nI w).toNatClampNeg) else none) = o (nI (V 9 w)) := by
  have h6 := hB.2.1
  rw [inb_t (by omega : w < 6) (by decide), nI_clamp (by omega), hM.2 9 (by decide) (by decide) w (by show w < 6; omega)]
theorem thM {V : Nat → Nat → Nat} {S : OS} (hM : MR V S) (hB : WB V) {w : Nat} (hw : w < V 1 0) : S.2 4 (nI w).toNatClampNeg = nI (V 9 w) := by
  have h6 := hB.2.1
  rw [nI_clamp (by omega), hM.2 9 (by decide) (by decide) w (by show w < 6; omega)]
theorem ibw {V : Nat → Nat → Nat} (hB : WB V) {w : Nat} (hw : w < V 1 0) : inb (nI w) 6 = true := inb_nI (by have := hB.2.1; omega) (by decide)
theorem worst_M {V : Nat → Nat → Nat} {S : OS} (hM : MR V S) (hB : WB V) (hL : WL V) {l w h : Nat} (hl : l < 5) (hw : w < V 1 0) (hh : h < 24) : f_X8_mostFaults S (nI l) (nI w) (nI h) = some (ob (-9) (wsN V l w h)) := by
  have hth := WB_th hB hw
  have h8 := hB.1
  unfold f_X8_mostFaults
  refine sh_best (bet := gtF (fs V (V 10 l) (V 11 l) h)) (p := fun s => (V 9 w).testBit s) (n := V 0 0) (ex := some) (by omega) ?_ ?_
  · intro k o ho
    unfold b_X8_mostFaults_7
    rw [hM.1 0 (by decide), if_pos (nI_le (Nat.le_refl _) (by omega))]
  · intro k o i hi ho
    unfold b_X8_mostFaults_7 j_X8_mostFaults_54 j_X8_mostFaults_58
    rw [hM.1 0 (by decide), if_neg (nI_ge hi (by omega)), if_pos (ibw hB hw), thM hM hB hw, has_M (by omega) (by omega), Option.bind_some, if_bI, show nI i + (1 : Int32) = nI (i + 1) from nI_1 i]
    by_cases e : (V 9 w).testBit i = true
    · rw [if_pos e]
      cases o with
      | none => rw [if_pos (by decide), amS_n e]; rfl
      | some b =>
        obtain ⟨h1, h2⟩ := ho b rfl
        have f1 := fs_le hB (sk := V 10 l) (kn := V 11 l) (by omega : i < 8) hh
        have f2 := fs_le hB (sk := V 10 l) (kn := V 11 l) (by omega : b < 8) hh
        rw [show ob (-9) (some b) = nI b from rfl, if_neg (show ¬ nI b < 0 from nI_pos (by omega)), finM hM hB hL hl (by omega) hh, Option.bind_some, finM hM hB hL hl (by omega) hh, Option.bind_some]
        by_cases e2 : fs V (V 10 l) (V 11 l) h i ≤ fs V (V 10 l) (V 11 l) h b
        · rw [if_pos (nI_le e2 (by omega)), amS_f (by exact dcF e2)]; rfl
        · rw [if_neg (nI_ge (by omega) (by omega)), amS_t e (by exact dcT e2)]; rfl
    · rw [if_neg e, amS_p (by simpa using e)]
theorem ws_some {V : Nat → Nat → Nat} (hB : WB V) {l w h : Nat} (hw : w < V 1 0) : ∃ b, wsN V l w h = some b ∧ b < 8 := by
  obtain ⟨h1, h2⟩ := hB.2.2.2.2 w hw
  have h8 := hB.1
  obtain ⟨i, hi⟩ : ∃ i, (V 9 w).testBit i = true := Nat.exists_testBit_of_ne_zero (by omega)
  have hi2 : i < V 0 0 := by
    rcases Nat.lt_or_ge i (V 0 0) with q | q
    · exact q
    · rw [Nat.testBit_lt_two_pow (Nat.lt_of_lt_of_le h2 (Nat.pow_le_pow_right (by decide) q))] at hi
      exact absurd hi (by decide)
  obtain ⟨b, hb⟩ := amo_some (bet := gtF (fs V (V 10 l) (V 11 l) h)) (p := fun s => (V 9 w).testBit s) hi2 hi
  exact ⟨b, hb, by have := (amo_ok hb).1; omega⟩
theorem bhour_M {V : Nat → Nat → Nat} {S : OS} (hM : MR V S) (hB : WB V) (hL : WL V) {l w : Nat} {what : Int32} (hl : l < 5) (hw : w < V 1 0) : Lp3 (b_X8_bestHour_58 (nI l) (nI w) what S) FU 0 0 0 = some (if what = 0 then ob 0 (bhN V l w) else nI (hpN V l w), S) := by
  have hth := WB_th hB hw
  have hf := fun h (hh : h < 24) => fo_le hB (bits := V 9 w) (sk := V 10 l) (kn := V 11 l) hh
  refine lp_run3 24 (fun i b a s => b = ob 0 (amo (ltF (fun h => fo V (V 9 w) (V 10 l) (V 11 l) h)) (fun _ => true) i) ∧ a = nI (bs (fun h => paB V (V 9 w) (V 10 l) (V 11 l) h (V 4 0)) i) ∧ s = nI i) _ ?_ FU 0 _ _ _ (Nat.zero_le _) ⟨rfl, rfl, rfl⟩ (by rw [FU_1000]; omega)
  rintro k i b a s hi ⟨rfl, rfl, rfl⟩
  unfold b_X8_bestHour_58
  by_cases e : i = 24
  · left
    subst e
    rw [if_pos (by decide)]
    unfold j_X8_bestHour_133
    split <;> rfl
  · have hlt : i < 24 := by omega
    rw [if_neg (show ¬ (24 : Int32) ≤ nI i from nI_ge (b := 24) hlt (by decide)), pwM hM hB hL hl hw hlt, Option.bind_some, if_bI]
    unfold j_X8_bestHour_86 j_X8_bestHour_125
    rw [if_pos (ibw hB hw), thM hM hB hw, foM hM hB hL hl (by omega) hlt]
    simp only [Option.bind_some]
    refine Or.inr ⟨hlt, ?_⟩
    have h1 := hf i hlt
    have key : ∃ b : Nat, b < 24 ∧ ob 0 (amo (ltF (fun h => fo V (V 9 w) (V 10 l) (V 11 l) h)) (fun _ => true) i) = nI b ∧ amo (ltF (fun h => fo V (V 9 w) (V 10 l) (V 11 l) h)) (fun _ => true) (i + 1) = (if fo V (V 9 w) (V 10 l) (V 11 l) b ≤ fo V (V 9 w) (V 10 l) (V 11 l) i then some b else some i) := by
      cases ho : amo (ltF (fun h => fo V (V 9 w) (V 10 l) (V 11 l) h)) (fun _ => true) i with
      | none =>
        have hi0 : i = 0 := by
          rcases Nat.eq_zero_or_pos i with q | q
          · exact q
          · obtain ⟨b, hb⟩ := amo_some (bet := ltF (fun h => fo V (V 9 w) (V 10 l) (V 11 l) h)) (p := fun _ => true) q rfl
            rw [hb] at ho; cases ho
        subst hi0
        exact ⟨0, by decide, rfl, by rw [amo, ho, amS_n rfl, if_pos (Nat.le_refl _)]⟩
      | some b =>
        obtain ⟨g1, -⟩ := amo_ok ho
        refine ⟨b, by omega, rfl, ?_⟩
        rw [amo, ho]
        by_cases e2 : fo V (V 9 w) (V 10 l) (V 11 l) b ≤ fo V (V 9 w) (V 10 l) (V 11 l) i
        · rw [if_pos e2, amS_f (by exact dcF e2)]
        · rw [if_neg e2, amS_t rfl (by exact dcT e2)]
    obtain ⟨b, hb1, hb2, hb3⟩ := key
    have h2 := hf b hb1
    rw [hb2, foM hM hB hL hl (by omega) hb1]
    simp only [Option.bind_some]
    rw [ibw hB hw, if_pos rfl, if_pos rfl, show nI i + (1 : Int32) = nI (i + 1) from nI_1 i]
    have hset : ∀ c : Bool, c = paB V (V 9 w) (V 10 l) (V 11 l) i (V 4 0) → nI (bs (fun h => paB V (V 9 w) (V 10 l) (V 11 l) h (V 4 0)) i) ||| (if c = true then (1 : Int32) <<< (nI i &&& 31) else 0) = nI (bs (fun h => paB V (V 9 w) (V 10 l) (V 11 l) h (V 4 0)) (i + 1)) := by
      intro c hc
      rw [bs, ← hc]
      cases c
      · exact or_nI _ 0
      · rw [if_pos rfl, if_pos rfl, sh1 i (by omega)]; exact or_nI _ _
    by_cases e2 : fo V (V 9 w) (V 10 l) (V 11 l) b ≤ fo V (V 9 w) (V 10 l) (V 11 l) i
    · rw [if_pos (nI_le e2 (by omega))]
      rw [if_pos e2] at hb3
      refine ⟨nI b, nI (bs (fun h => paB V (V 9 w) (V 10 l) (V 11 l) h (V 4 0)) (i + 1)), nI (i + 1), ⟨by rw [hb3]; rfl, rfl, rfl⟩, ?_⟩
      · by_cases e3 : paB V (V 9 w) (V 10 l) (V 11 l) i (V 4 0) = true
        · rw [if_pos e3, ← hset true e3.symm, if_pos rfl]
        · rw [if_neg e3, if_pos rfl, if_pos (nI_le e2 (by omega)), ← hset false (by simpa using e3)]; rfl
    · rw [if_neg (nI_ge (by omega) (by omega))]
      rw [if_neg e2] at hb3
      refine ⟨nI i, nI (bs (fun h => paB V (V 9 w) (V 10 l) (V 11 l) h (V 4 0)) (i + 1)), nI (i + 1), ⟨by rw [hb3]; rfl, rfl, rfl⟩, ?_⟩
      · by_cases e3 : paB V (V 9 w) (V 10 l) (V 11 l) i (V 4 0) = true
        · rw [if_pos e3, ← hset true e3.symm, if_pos rfl]
        · rw [if_neg e3, if_pos rfl, if_neg (nI_ge (by omega) (by omega)), ← hset false (by simpa using e3)]; rfl
theorem easy_M {V : Nat → Nat → Nat} {S : OS} (hM : MR V S) (hB : WB V) (hL : WL V) {l h : Nat} (hl : l < 5) (hh : h < 24) : Lp2 (b_X8_easiest_67 (nI l) (nI h) S) FU (-9) 0 = some (ob (-9) (ewN V l h), S) := by
  have h6 := hB.2.1
  refine sh_best (bet := ltF (fun w => fo V (V 9 w) (V 10 l) (V 11 l) h)) (p := fun _ => true) (n := V 1 0) (ex := fun b => some (b, S)) (by omega) ?_ ?_
  · intro k o ho
    unfold b_X8_easiest_67
    rw [hM.1 1 (by decide), if_pos (nI_le (Nat.le_refl _) (by omega))]
  · intro k o i hi ho
    unfold b_X8_easiest_67 j_X8_easiest_110 j_X8_easiest_114
    rw [hM.1 1 (by decide), if_neg (nI_ge hi (by omega)), show nI i + (1 : Int32) = nI (i + 1) from nI_1 i]
    cases o with
    | none => rw [if_pos (by decide), amS_n rfl]; rfl
    | some b =>
      obtain ⟨h1, h2⟩ := ho b rfl
      have f1 := fo_le hB (bits := V 9 i) (sk := V 10 l) (kn := V 11 l) hh
      have f2 := fo_le hB (bits := V 9 b) (sk := V 10 l) (kn := V 11 l) hh
      have g1 := WB_th hB hi
      have g2 := WB_th hB (by omega : b < V 1 0)
      rw [show ob (-9) (some b) = nI b from rfl, if_neg (nI_pos (by omega)), if_pos (ibw hB hi), thM hM hB hi, foM hM hB hL hl (by omega) hh, Option.bind_some, if_pos (ibw hB (by omega)), thM hM hB (by omega), foM hM hB hL hl (by omega) hh, Option.bind_some]
      by_cases e2 : fo V (V 9 b) (V 10 l) (V 11 l) h ≤ fo V (V 9 i) (V 10 l) (V 11 l) h
      · rw [if_pos (nI_le e2 (by omega)), amS_f (by exact dcF e2)]; rfl
      · rw [if_neg (nI_ge (by omega) (by omega)), amS_t rfl (by exact dcT e2)]; rfl
/-- the state with another known row, and back -/
theorem sa_back {S : OS} {k i : Nat} {x : Int32} : sa (sa S k (upd (S.2 k) i x)) k (upd (upd (S.2 k) i x) i (S.2 k i)) = S := by
  obtain ⟨a, b⟩ := S
  show ((a, upA (upA b k _) k _) : OS) = (a, b)
  congr 1
  funext j
  by_cases h : j = k
  · subst h
    rw [upA_s, upd_back]
  · rw [upA_n h, upA_n h]
theorem MB_sa {V : Nat → Nat → Nat} {S : OS} (h : MB V S) {k : Nat} (hk : 5 ≤ k) {f : Nat → Int32} : MB V (sa S k f) := by
  obtain ⟨h1, h2, h3, h4, h5⟩ := h
  exact ⟨h1, h2, h3, fun s hs => by rw [sa_n (by omega), sa_n (by omega), sa_n (by omega)]; exact h4 s hs, fun w hw => by rw [sa_n (by omega)]; exact h5 w hw⟩
theorem MB_su {V : Nat → Nat → Nat} {S : OS} (h : MB V S) {k : Nat} (hk : 10 ≤ k) {v : Int32} : MB V (su S k v) := by
  obtain ⟨h1, h2, h3, h4, h5⟩ := h
  exact ⟨by rw [su_n (by omega)]; exact h1, by rw [su_n (by omega)]; exact h2, by rw [su_n (by omega)]; exact h3, h4, h5⟩
/-- passes a way (or all, -1) who knows more besides -/
def paK (V : Nat → Nat → Nat) (l : Nat) (way : Option Nat) (h more : Nat) : Bool := match way with
  | some w => paB V (V 9 w) (V 10 l) (V 11 l ||| more) h (V 4 0)
  | none => alB (fun w => paB V (V 9 w) (V 10 l) (V 11 l ||| more) h (V 4 0)) (V 1 0)
theorem bs_all {p : Nat → Bool} : ∀ {n : Nat}, (bs p n = 2 ^ n - 1) ↔ alB p n = true
  | 0 => ⟨fun _ => rfl, fun _ => rfl⟩
  | n + 1 => by
    have ih := bs_all (p := p) (n := n)
    have hlt := bs_lt (p := p) (n := n)
    have h2 : 2 ^ (n + 1) = 2 ^ n * 2 := Nat.pow_succ ..
    have h3 := Nat.two_pow_pos n
    rw [bs, alB]
    by_cases e : p n = true
    · have h4 : bs p n ||| 2 ^ n = 2 ^ n + bs p n := by
        have := Nat.two_pow_add_eq_or_of_lt hlt 1
        rw [Nat.mul_one] at this
        rw [Nat.or_comm, ← this]
      rw [if_pos e, e, Bool.and_true, h4, ← ih]
      omega
    · have e2 : p n = false := by simpa using e
      rw [if_neg e, e2, Bool.and_false, Nat.or_zero]
      exact ⟨fun q => by omega, fun q => by cases q⟩
theorem pk_M {V : Nat → Nat → Nat} {S : OS} (hM : MR V S) (hB : WB V) (hL : WL V) {l h more : Nat} {way : Option Nat} (hl : l < 5) (hw : ∀ w, way = some w → w < V 1 0) (hh : h < 24) (hm : more < 256) : f_X8_passesKnowing S (nI l) (ob (-1) way) (nI h) (nI more) = some (bI (paK V l way h more), S) := by
  have h6 := hB.2.1
  have hk := kn_lt hB hL hl
  have hkm : V 11 l ||| more < 256 := or8 hk hm
  have e11 := hM.2 11 (by decide) (by decide) l hl
  have e10 := hM.2 10 (by decide) (by decide) l hl
  have hMB := MB_sa (MR_MB hM) (k := 6) (by decide) (f := upd (S.2 6) l (nI (V 11 l ||| more)))
  have g1 : (sa S 6 (upd (S.2 6) l (nI (V 11 l ||| more)))).2 5 l = nI (V 10 l) := by rw [sa_n (by decide)]; exact e10
  have g2 : (sa S 6 (upd (S.2 6) l (nI (V 11 l ||| more)))).2 6 l = nI (V 11 l ||| more) := by rw [sa_s, upd_s]
  have g3 : (sa S 6 (upd (S.2 6) l (nI (V 11 l ||| more)))).1 11 = nI (V 4 0) := hM.1 4 (by decide)
  have fin : ∀ c : Bool, j_X8_passesKnowing_55 (nI l) (nI (V 11 l)) (bI c) (sa S 6 (upd (S.2 6) l (nI (V 11 l ||| more)))) = some (bI c, S) := by
    intro c
    unfold j_X8_passesKnowing_55
    rw [inb_t hl (by decide), if_pos (bI_isB c), nI_clamp (by omega), sa_s, ← e11]
    exact congrArg (fun z => some (bI c, z)) sa_back
  have e11' : S.2 6 l = nI (V 11 l) := e11
  unfold f_X8_passesKnowing
  simp only [inb_nI hl (show 5 < 2 ^ 31 by decide), nI_clamp (show l < 2 ^ 31 by omega), ↓reduceIte]
  rw [e11', or_nI]
  cases way with
  | some w =>
    have hw2 := hw w rfl
    rw [show ob (-1) (some w) = nI w from rfl, if_pos (nI_pos' (by omega)), pw_M hMB hB hl hw2 hh g1 g2 (hL.2.2.2 l hl).1 hkm g3 hL.2.1, Option.bind_some, fin]
    rfl
  | none =>
    rw [show ob (-1) none = -1 from rfl, if_neg (by decide), wp_M hMB hB hl hh g1 g2 (hL.2.2.2 l hl).1 hkm g3 hL.2.1, Option.bind_some, hM.1 1 (by decide), sh1 _ (by omega), show nI (2 ^ V 1 0) - (1 : Int32) = nI (2 ^ V 1 0 - 1) from pk_sub (a := 2 ^ V 1 0) (b := 1) (Nat.two_pow_pos _)]
    have hlt := wp_lt hB (sk := V 10 l) (kn := V 11 l ||| more) (h := h) (lm := V 4 0)
    have hp6 : 2 ^ V 1 0 ≤ 2 ^ 6 := Nat.pow_le_pow_right (by decide) h6
    by_cases e : wp V (V 10 l) (V 11 l ||| more) h (V 4 0) = 2 ^ V 1 0 - 1
    · rw [if_pos (congrArg nI e), show (1 : Int32) = bI true from rfl, fin]
      have := bs_all.mp e
      unfold paK
      rw [this]
    · rw [if_neg (fun q => e ((nI_eq (by omega) (by omega)).mp q)), show (0 : Int32) = bI false from rfl, fin]
      have : alB (fun w => paB V (V 9 w) (V 10 l) (V 11 l ||| more) h (V 4 0)) (V 1 0) = false := by
        cases hq : alB (fun w => paB V (V 9 w) (V 10 l) (V 11 l ||| more) h (V 4 0)) (V 1 0) with
        | false => rfl
        | true => exact absurd (bs_all.mpr hq) e
      unfold paK
      rw [this]
