/-! PURE: the reference's questions: what is put and taken back -/
theorem paa_M {V : Nat → Nat → Nat} {S : OS} (hM : MB V S) (hB : WB V) {l kn : Nat} (hl : l < 5) (hsk : S.2 5 l = nI (V 10 l)) (hkn : S.2 6 l = nI kn) (h9 : V 10 l ≤ 9) (hk : kn < 256) (hlm : S.1 11 = nI (V 4 0)) (hl9 : V 4 0 ≤ 99) : f_X8_passedAtAll S (nI l) = some (nI (pkN V l kn 24)) := by
  unfold f_X8_passedAtAll
  refine lp_run2 24 (fun i a s => a = nI (pkN V l kn i) ∧ s = nI i) _ ?_ FU 0 _ _ (Nat.zero_le _) ⟨rfl, rfl⟩ (by rw [FU_1000]; omega)
  rintro k i a s hi ⟨rfl, rfl⟩
  unfold b_X8_passedAtAll_4
  by_cases e : i = 24
  · left
    subst e
    rw [if_pos (by decide)]
  · have hlt : i < 24 := by omega
    rw [if_neg (show ¬ (24 : Int32) ≤ nI i from nI_ge (b := 24) hlt (by decide)), wp_M hM hB hl hlt hsk hkn h9 hk hlm hl9, Option.bind_some, bc_M _ (wp_lt hB), Option.bind_some, nI_add]
    exact Or.inr ⟨hlt, _, _, ⟨rfl, nI_1 i⟩, rfl⟩
theorem gof_M {V : Nat → Nat → Nat} {S : OS} (hM : MR V S) (hB : WB V) (hL : WL V) {l s : Nat} (hl : l < 5) (hs : s < V 0 0) : f_X8_gainOf S (nI l) (nI s) = some (nI (pkN V l (V 11 l ||| 2 ^ s) 24) - nI (pkN V l (V 11 l) 24), S) := by
  have hk := kn_lt hB hL hl
  have h8 := hB.1
  have h9 := (hL.2.2.2 l hl).1
  have e10 : S.2 5 l = nI (V 10 l) := hM.2 10 (by decide) (by decide) l hl
  have e11 : S.2 6 l = nI (V 11 l) := hM.2 11 (by decide) (by decide) l hl
  have g3 : S.1 11 = nI (V 4 0) := hM.1 4 (by decide)
  unfold f_X8_gainOf
  simp only [inb_nI hl (show 5 < 2 ^ 31 by decide), nI_clamp (show l < 2 ^ 31 by omega), ↓reduceIte]
  rw [paa_M (MR_MB hM) hB hl e10 e11 h9 hk g3 hL.2.1, Option.bind_some, e11, sh1 s (by omega), or_nI, paa_M (MB_sa (MR_MB hM) (by decide)) hB hl (by rw [sa_n (by decide)]; exact e10) (by rw [sa_s, upd_s]) h9 (or8 hk (p2_lt hB hs)) g3 hL.2.1, Option.bind_some]
  exact congrArg (fun z => some (_, z)) (Eq.trans (by rw [← e11]) (sa_back (S := S) (k := 6) (i := l) (x := nI (V 11 l ||| 2 ^ s))))
theorem sub_le {a b c : Nat} (ha : a < 2 ^ 29) (hb : b < 2 ^ 29) (hc : c < 2 ^ 29) : (nI a - nI c ≤ nI b - nI c) ↔ a ≤ b := by
  have key : ∀ x : Nat, x < 2 ^ 29 → (nI x - nI c).toInt = (x : Int) - c := by
    intro x hx
    rw [Int32.toInt_sub, nI_toInt (by omega), nI_toInt (by omega)]
    exact Int.bmod_eq_of_le (by omega) (by omega)
  rw [Int32.le_iff_toInt_le, key a ha, key b hb]
  omega
theorem bless_M {V : Nat → Nat → Nat} {S : OS} (hM : MR V S) (hB : WB V) (hL : WL V) {l : Nat} (hl : l < 5) : Lp3 (b_X8_gain_44 (nI l)) FU (-9) 0 S = some (ob (-9) (blsN V l), S) := by
  have hk := kn_lt hB hL hl
  have h8 := hB.1
  have e11 : S.2 6 l = nI (V 11 l) := hM.2 11 (by decide) (by decide) l hl
  refine sh_best3 (bet := gtF (fun s => pkN V l (V 11 l ||| 2 ^ s) 24)) (p := fun s => !(V 11 l).testBit s) (n := V 0 0) (ex := fun b => some (b, S)) (by omega) ?_ ?_
  · intro k o ho
    unfold b_X8_gain_44
    rw [hM.1 0 (by decide), if_pos (nI_le (Nat.le_refl _) (by omega))]
  · intro k o i hi ho
    unfold b_X8_gain_44 j_X8_gain_87 j_X8_gain_90
    rw [hM.1 0 (by decide), if_neg (nI_ge hi (by omega)), inb_t hl (by decide), nI_clamp (by omega), e11, has_M (by omega) (by omega), Option.bind_some, if_bI, show nI i + (1 : Int32) = nI (i + 1) from nI_1 i]
    by_cases e : (V 11 l).testBit i = true
    · rw [if_pos e, amS_p (by simp [e])]
    · have e' : (V 11 l).testBit i = false := by simpa using e
      rw [if_neg e]
      cases o with
      | none => rw [if_pos (by decide), amS_n (by simp [e'])]; rfl
      | some b =>
        obtain ⟨h1, h2⟩ := ho b rfl
        have f1 := pkN_le (V := V) (l := l) (kn := V 11 l ||| 2 ^ i) 24
        have f2 := pkN_le (V := V) (l := l) (kn := V 11 l ||| 2 ^ b) 24
        have f3 := pkN_le (V := V) (l := l) (kn := V 11 l) 24
        rw [show ob (-9) (some b) = nI b from rfl, if_neg (nI_pos (by omega)), gof_M hM hB hL hl hi]
        simp only [Option.bind_some]
        rw [gof_M hM hB hL hl (by omega)]
        simp only [Option.bind_some]
        by_cases e2 : pkN V l (V 11 l ||| 2 ^ i) 24 ≤ pkN V l (V 11 l ||| 2 ^ b) 24
        · rw [if_pos ((sub_le (by omega) (by omega) (by omega)).mpr e2), amS_f (by exact dcF e2)]; rfl
        · rw [if_neg (fun q => e2 ((sub_le (by omega) (by omega) (by omega)).mp q)), amS_t (by simp [e']) (by exact dcT e2)]; rfl
theorem career_M {V : Nat → Nat → Nat} {S : OS} (hM : MR V S) (hB : WB V) (hL : WL V) {l n : Nat} (hl : l < 5) (hn : n ≤ 60) : Lp3 (b_X8_career_44 (nI l) (nI n) (nI (V 11 l))) FU 0 0 S = some (nI (if V 1 0 = 0 then 0 else caP V l n), S) := by
  have h6 := hB.2.1
  have h9 := (hL.2.2.2 l hl).1
  have e10 : S.2 5 l = nI (V 10 l) := hM.2 10 (by decide) (by decide) l hl
  have e11 : S.2 6 l = nI (V 11 l) := hM.2 11 (by decide) (by decide) l hl
  have e8 : S.1 8 = nI (V 1 0) := hM.1 1 (by decide)
  have eh : S.1 10 = nI (V 3 0) := hM.1 3 (by decide)
  have g3 : S.1 11 = nI (V 4 0) := hM.1 4 (by decide)
  have fin : ∀ (x : Int32) (c : Int32), j_X8_career_113 (nI l) (nI (V 11 l)) c (sa S 6 (upd (S.2 6) l x)) = some (c, S) := by
    intro x c
    unfold j_X8_career_113
    rw [inb_t hl (by decide), nI_clamp (by omega), sa_up, sa_id e11]
  refine lp_run3 n (fun i c s t => (V 1 0 = 0 → c = 0 ∧ t = S) ∧ (0 < V 1 0 → c = nI (caP V l i) ∧ t = sa S 6 (upd (S.2 6) l (nI (caK V l i)))) ∧ s = nI i) _ ?_ FU 0 _ _ _ (Nat.zero_le _) ⟨fun _ => ⟨rfl, rfl⟩, fun _ => ⟨rfl, (sa_id e11).symm⟩, rfl⟩ (by rw [FU_1000]; omega)
  rintro k i c s t hi ⟨hz, hc, rfl⟩
  by_cases e0 : V 1 0 = 0
  · obtain ⟨rfl, rfl⟩ := hz e0
    left
    rw [if_pos e0]
    unfold b_X8_career_44
    have := fin (t.2 6 l) 0
    rw [sa_id rfl] at this
    by_cases e : i = n
    · subst e
      rw [if_pos (nI_le (Nat.le_refl _) (by omega)), this]; rfl
    · rw [if_neg (nI_ge (by omega) (by omega)), e8, if_pos (by rw [e0]; decide), this]; rfl
  · obtain ⟨rfl, rfl⟩ := hc (by omega)
    rw [if_neg e0]
    unfold b_X8_career_44
    by_cases e : i = n
    · subst e
      left
      rw [if_pos (nI_le (Nat.le_refl _) (by omega)), fin]
    · have hm : i % V 1 0 < V 1 0 := Nat.mod_lt _ (by omega)
      have hth : S.2 4 (i % V 1 0) = nI (V 9 (i % V 1 0)) := hM.2 9 (by decide) (by decide) (i % V 1 0) (by show i % V 1 0 < 6; omega)
      rw [if_neg (nI_ge (by omega) (by omega)), show (sa S 6 (upd (S.2 6) l (nI (caK V l i)))).1 8 = nI (V 1 0) from e8, show (sa S 6 (upd (S.2 6) l (nI (caK V l i)))).1 10 = nI (V 3 0) from eh, if_neg (nI_nle (by omega) (by omega)), if_neg (nI_ne0 (by omega) (by omega)), rem_nI (by omega) (by omega) (by omega), pw_M (MB_sa (MR_MB hM) (by decide)) hB hl hm hL.1 (by rw [sa_n (by decide)]; exact e10) (by rw [sa_s, upd_s]) h9 (caK_lt hB hL hl (by omega) i) g3 hL.2.1, Option.bind_some, if_bI]
      unfold j_X8_career_83
      have q4 : (sa S 6 (upd (S.2 6) l (nI (caK V l i)))).2 4 (i % V 1 0) = nI (V 9 (i % V 1 0)) := by rw [sa_n (by decide)]; exact hth
      have q6 : (sa S 6 (upd (S.2 6) l (nI (caK V l i)))).2 6 l = nI (caK V l i) := by rw [sa_s, upd_s]
      have q8 : (sa S 6 (upd (S.2 6) l (nI (caK V l i)))).1 8 = nI (V 1 0) := e8
      have q0 : ¬ nI (V 1 0) = 0 := nI_ne0 (by omega) (by omega)
      simp only [inb_nI hl (show 5 < 2 ^ 31 by decide), nI_clamp (show l < 2 ^ 31 by omega), ↓reduceIte, q8, q0, rem_nI (show i < 2 ^ 31 by omega) (show 0 < V 1 0 by omega) (show V 1 0 < 2 ^ 31 by omega), inb_nI (show i % V 1 0 < 6 by omega) (show 6 < 2 ^ 31 by decide), nI_clamp (show i % V 1 0 < 2 ^ 31 by omega), q4, q6, or_nI, sa_up]
      rw [show nI i + (1 : Int32) = nI (i + 1) from nI_1 i]
      refine Or.inr ⟨by omega, ?_⟩
      by_cases e3 : paB V (V 9 (i % V 1 0)) (V 10 l) (caK V l i) (V 3 0) (V 4 0) = true
      · rw [if_pos e3]
        exact ⟨_, _, _, ⟨fun q => absurd q e0, fun _ => ⟨by rw [caP, if_pos e3]; exact nI_1 _, rfl⟩, rfl⟩, rfl⟩
      · rw [if_neg e3]
        exact ⟨_, _, _, ⟨fun q => absurd q e0, fun _ => ⟨by rw [caP, if_neg e3]; exact nI_add _ 0, rfl⟩, rfl⟩, rfl⟩
theorem lessons_M {V : Nat → Nat → Nat} {S : OS} (hM : MR V S) (hB : WB V) (hL : WL V) {l w h : Nat} (hl : l < 5) (hw : w < V 1 0) (hh : h < 24) : Lp4 (b_X8_lessons_25 (nI l) (nI w) (nI h)) FU 0 0 0 S = some (vo (-9) (cnB (dB V l w)) (lessN V l w h), S) := by
  have hth := WB_th hB hw
  have h8 := hB.1
  have hk := kn_lt hB hL hl
  have e11 : S.2 6 l = nI (V 11 l) := hM.2 11 (by decide) (by decide) l hl
  have pk : ∀ i, i ≤ 8 → f_X8_passesKnowing S (nI l) (nI w) (nI h) (nI (bs (dB V l w) i)) = some (bI (PL V l w h i), S) := fun i hi => pk_M (way := some w) hM hB hL hl (fun x hx => by cases hx; exact hw) hh (bs256 hi)
  refine lp_run4 (V 0 0) (fun i v4 v5 s t => v4 = nI (bs (dB V l w) i) ∧ v5 = nI (cnB (dB V l w) i) ∧ s = nI i ∧ t = S ∧ ∃ k0, k0 ≤ i ∧ (∀ j, j < k0 → PL V l w h j = false) ∧ cnB (dB V l w) k0 = cnB (dB V l w) i ∧ ∀ j, k0 ≤ j → j ≤ i → bs (dB V l w) j = bs (dB V l w) i) _ ?_ FU 0 _ _ _ _ (Nat.zero_le _) ⟨rfl, rfl, rfl, rfl, 0, Nat.le_refl _, fun j hj => by omega, rfl, fun j h1 h2 => by rw [show j = 0 by omega]⟩ (by rw [FU_1000]; omega)
  rintro k i v4 v5 s t hi ⟨rfl, rfl, rfl, rfl, k0, hk0, hno, hcn, hbs⟩
  have same : ∀ j, k0 ≤ j → j ≤ i → PL V l w h j = PL V l w h i := fun j h1 h2 => by unfold PL; rw [hbs j h1 h2]
  unfold b_X8_lessons_25
  rw [hM.1 0 (by decide)]
  by_cases e : i = V 0 0
  · left
    subst e
    rw [if_pos (nI_le (Nat.le_refl _) (by omega))]
    unfold j_X8_lessons_93
    rw [pk _ h8]
    simp only [Option.bind_some, if_bI]
    by_cases q : PL V l w h (V 0 0) = true
    · rw [if_pos q]
      unfold lessN
      rw [fst_at hno ((same k0 (Nat.le_refl _) hk0).trans q) (by omega), ← hcn]
      rfl
    · rw [if_neg q]
      unfold lessN
      rw [fst_no (fun j hj => ?_)]
      · rfl
      · rcases Nat.lt_or_ge j k0 with h1 | h1
        · exact hno j h1
        · rw [same j h1 (by omega)]; simpa using q
  · have hlt : i < V 0 0 := by omega
    have hd : (nd (V 9 w) (V 11 l)).testBit i = dB V l w i := nd_bit (by omega)
    rw [if_neg (nI_ge hlt (by omega)), if_pos (ibw hB hw), thM hM hB hw, inb_t hl (by decide), nI_clamp (by omega), e11, nd_nI hth, has_M (by have := nd_lt (b := V 11 l) hth; omega) (by omega), Option.bind_some, if_bI, hd]
    unfold j_X8_lessons_87
    rw [show nI i + (1 : Int32) = nI (i + 1) from nI_1 i]
    by_cases e2 : dB V l w i = true
    · rw [if_pos e2, pk i (by omega)]
      simp only [Option.bind_some, if_bI]
      by_cases q : PL V l w h i = true
      · rw [if_pos q]
        left
        unfold lessN
        rw [fst_at hno ((same k0 (Nat.le_refl _) hk0).trans q) (by omega), ← hcn]
        rfl
      · rw [if_neg q, sh1 i (by omega), or_nI]
        refine Or.inr ⟨hlt, _, _, _, _, ⟨by rw [bs, if_pos e2], by rw [cnB, if_pos e2]; exact nI_1 _, rfl, rfl, i + 1, Nat.le_refl _, fun j hj => ?_, rfl, fun j h1 h2 => by rw [show j = i + 1 by omega]⟩, rfl⟩
        rcases Nat.lt_or_ge j k0 with h1 | h1
        · exact hno j h1
        · rw [same j h1 (by omega)]; simpa using q
    · have hb : bs (dB V l w) (i + 1) = bs (dB V l w) i := by rw [bs, if_neg e2, Nat.or_zero]
      have hc : cnB (dB V l w) (i + 1) = cnB (dB V l w) i := by rw [cnB, if_neg e2, Nat.add_zero]
      rw [if_neg e2]
      refine Or.inr ⟨hlt, _, _, _, _, ⟨by rw [hb], by rw [hc], rfl, rfl, k0, by omega, hno, by rw [hc, hcn], fun j h1 h2 => ?_⟩, rfl⟩
      by_cases ej : j = i + 1
      · rw [ej]
      · rw [hb]; exact hbs j h1 (by omega)
