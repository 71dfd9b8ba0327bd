/-! PURE: the next day -/
def wgR (kn : Nat) : Nat → Nat
  | 0 => kn
  | j + 1 => if kn.testBit j then nd kn (2 ^ j) else wgR kn j
theorem wg_C : ∀ kn, kn < 256 → f_X6_withoutGreatest (nI kn) = some (nI (wgR kn 8)) := by decide +kernel
theorem wgR_le (kn : Nat) : ∀ j, wgR kn j ≤ kn
  | 0 => Nat.le_refl _
  | j + 1 => by
    rw [wgR]
    split
    · exact Nat.and_le_left
    · exact wgR_le kn j
theorem wg_M {k : Int32 → OS → Option OS} {S : OS} {l kn : Nat} (hl : l < 5) (hk : kn < 256) (h6 : S.2 6 l = nI kn) : ∀ j, j ≤ 8 → ∀ fuel, j < fuel → Lp1 (b_X8_goesDay_29 k (nI l) S) fuel (nI j - 1) = k (nI (l + 1)) (sa S 6 (upd (S.2 6) l (nI (wgR kn j))))
  | 0, _, fuel, hf => by
    obtain ⟨fuel, rfl⟩ : ∃ f, fuel = f + 1 := ⟨fuel - 1, by omega⟩
    rw [Lp1]
    generalize Lp1 (b_X8_goesDay_29 k (nI l) S) fuel = G
    unfold b_X8_goesDay_29 j_X8_goesDay_52 j_X8_goesDay_70
    rw [if_pos (by decide), if_pos (by decide), show nI l + (1 : Int32) = nI (l + 1) from nI_1 l, wgR, sa_id h6]
  | j + 1, hj, fuel, hf => by
    obtain ⟨fuel, rfl⟩ : ∃ f, fuel = f + 1 := ⟨fuel - 1, by omega⟩
    have ih := wg_M (k := k) hl hk h6 j (by omega) fuel (by omega)
    rw [Lp1, m1_add]
    revert ih
    generalize Lp1 (b_X8_goesDay_29 k (nI l) S) fuel = G
    intro ih
    unfold b_X8_goesDay_29 j_X8_goesDay_52 j_X8_goesDay_70
    rw [if_neg (nI_pos (by omega)), inb_t hl (by decide), nI_clamp (by omega), h6, has_M (by omega) (by omega), Option.bind_some, if_bI, wgR]
    by_cases e : kn.testBit j = true
    · rw [if_pos e, if_pos e, if_neg (nI_pos (by omega)), inb_t hl (by decide), inb_t hl (by decide), sh1 j (by omega), nd_nI hk, show nI l + (1 : Int32) = nI (l + 1) from nI_1 l]
    · rw [if_neg e, if_neg e, ← ih, Int32.sub_eq_add_neg]
def dayV (V : Nat → Nat → Nat) (i : Nat) : Nat → Nat → Nat := fun a b => if a = 11 then (if b < i then wgR (V 11 b) 8 else V 11 b) else if a = 5 then (if b = 0 then V 5 0 + 1 else V 5 b) else if a = 3 then (if b = 0 then 8 else V 3 b) else V a b
theorem dayV_n {V : Nat → Nat → Nat} {i a b : Nat} (h1 : a ≠ 11) (h2 : a ≠ 5) (h3 : a ≠ 3) : dayV V i a b = V a b := by unfold dayV; rw [if_neg h1, if_neg h2, if_neg h3]
theorem dayV_WB {V : Nat → Nat → Nat} (hB : WB V) {i : Nat} : WB (dayV V i) := hB
theorem dayV_WL {V : Nat → Nat → Nat} (hL : WL V) {i : Nat} (h5 : V 5 0 < 999) : WL (dayV V i) := by
  obtain ⟨l1, l2, l3, l4⟩ := hL
  refine ⟨show 8 < 24 by decide, l2, show V 5 0 + 1 ≤ 999 by omega, fun l hl => ⟨(l4 l hl).1, ?_⟩⟩
  show (if l < i then wgR (V 11 l) 8 else V 11 l) < 2 ^ V 0 0
  have := (l4 l hl).2
  have := wgR_le (V 11 l) 8
  split <;> omega
theorem dayV_S {V : Nat → Nat → Nat} {i : Nat} : Same V (dayV V i) := ⟨fun j hj => (dayV_n (by omega) (by omega) (by omega)).symm, fun j h1 h2 k _ => (dayV_n (by omega) (by omega) (by omega)).symm⟩
theorem nday_C {V : Nat → Nat → Nat} {T : OS} (hT : TR V T) (hB : WB V) (hL : WL V) (h9 : V 5 0 < 999) : ∃ T', f_X6_nextDay T = some (nI (V 5 0 + 1), T') ∧ TR (dayV V (V 2 0)) T' := by
  have h5 := hB.2.2.1
  unfold f_X6_nextDay
  rw [hT.1 5 (by decide), if_pos (show nI (V 5 0) < (999 : Int32) from nI_lt (b := 999) h9 (by decide)), nI_1]
  refine lp_in2 (V 2 0) (fun i s (t : OS) => s = nI i ∧ TR (dayV V i) t) (fun r => ∃ T' : OS, r = some (nI (V 5 0 + 1), T') ∧ TR (dayV V (V 2 0)) T') ?_ FU 0 _ _ (Nat.zero_le _) ⟨rfl, ?_⟩ (by rw [FU_1000]; omega)
  · rintro k i s t hi ⟨rfl, ht⟩
    unfold b_X6_nextDay_31
    rw [show t.1 2 = nI (V 2 0) from ht.1 2 (by decide)]
    by_cases e : i = V 2 0
    · left
      subst e
      rw [if_pos (nI_le (Nat.le_refl _) (by omega))]
      exact ⟨t, by rw [show t.1 5 = nI (V 5 0 + 1) from ht.1 5 (by decide)], ht⟩
    · have hlt : i < V 2 0 := by omega
      have hkn := kn_lt hB hL (by omega : i < 5)
      have h11 : t.2 11 i = nI (V 11 i) := by
        rw [ht.2 11 (by decide) (by decide) i (by show i < 5; omega)]
        show nI (if i < i then _ else _) = _
        rw [if_neg (by omega)]
      rw [if_neg (nI_ge hlt (by omega)), at_in (by omega : i < 5) (by decide), Option.bind_some, h11, wg_C _ hkn, Option.bind_some, store_in (by omega : i < 5) (by decide), Option.bind_some, show nI i + (1 : Int32) = nI (i + 1) from nI_1 i]
      refine Or.inr ⟨hlt, nI (i + 1), sa t 11 (upd (t.2 11) i (nI (wgR (V 11 i) 8))), ⟨rfl, fun j hj => ?_, fun j h1 h2 m hm => ?_⟩, rfl⟩
      · rw [sa_i, ht.1 j hj]
        unfold dayV
        rw [if_neg (by omega : ¬ j = 11), if_neg (by omega : ¬ j = 11)]
      · by_cases ej : j = 11
        · subst ej
          rw [sa_s]
          show _ = nI (if m < i + 1 then wgR (V 11 m) 8 else V 11 m)
          by_cases em : m = i
          · subst em; rw [upd_s, if_pos (by omega)]
          · rw [upd_n em, ht.2 11 h1 h2 m hm]
            show nI (if m < i then wgR (V 11 m) 8 else V 11 m) = _
            by_cases c : m < i
            · rw [if_pos c, if_pos (by omega)]
            · rw [if_neg c, if_neg (by omega)]
        · rw [sa_n ej, ht.2 j h1 h2 m hm, dayV_n ej (by omega) (by omega), dayV_n ej (by omega) (by omega)]
  · refine ⟨fun j hj => ?_, fun j h1 h2 m hm => ?_⟩
    · by_cases e3 : j = 3
      · subst e3; rw [su_s]; rfl
      · by_cases e5 : j = 5
        · subst e5; rw [su_n (by decide), su_s]; rfl
        · rw [su_n e3, su_n e5, dayV_n (by omega) e5 e3]; exact hT.1 j hj
    · rw [su_a, su_a, hT.2 j h1 h2 m hm]
      by_cases ej : j = 11
      · subst ej
        show _ = nI (if m < 0 then wgR (V 11 m) 8 else V 11 m)
        rw [if_neg (by omega)]
      · rw [dayV_n ej (by omega) (by omega)]
theorem gday_M {V : Nat → Nat → Nat} {S : OS} (hM : MR V S) (hB : WB V) (hL : WL V) : ∃ S', f_X8_goesDay S = some S' ∧ MR (dayV V (V 2 0)) S' ∧ OT S S' := by
  have h5 := hB.2.2.1
  unfold f_X8_goesDay
  rw [show S.1 12 = nI (V 5 0) from hM.1 5 (by decide), nI_1]
  refine lp_in2 (V 2 0) (fun i s (t : OS) => s = nI i ∧ MR (dayV V i) t ∧ OT S t) (fun r => ∃ S' : OS, r = some S' ∧ MR (dayV V (V 2 0)) S' ∧ OT S S') ?_ FU 0 _ _ (Nat.zero_le _) ⟨rfl, ?_, fun j hj => by rw [su_n (by omega), su_n (by omega)], fun j hj => rfl⟩ (by rw [FU_1000]; omega)
  · rintro k i s t hi ⟨rfl, ht, o1, o2⟩
    unfold b_X8_goesDay_18
    rw [show t.1 9 = nI (V 2 0) from ht.1 2 (by decide)]
    by_cases e : i = V 2 0
    · left
      subst e
      rw [if_pos (nI_le (Nat.le_refl _) (by omega))]
      exact ⟨t, rfl, ht, o1, o2⟩
    · have hlt : i < V 2 0 := by omega
      have hkn := kn_lt hB hL (by omega : i < 5)
      have h11 : t.2 6 i = nI (V 11 i) := by
        have := ht.2 11 (by decide) (by decide) i (by show i < 5; omega)
        rw [show t.2 6 i = _ from this]
        show nI (if i < i then _ else _) = _
        rw [if_neg (by omega)]
      rw [if_neg (nI_ge hlt (by omega)), show Lp1 (b_X8_goesDay_29 k (nI i) t) FU 7 = _ from wg_M (by omega : i < 5) hkn h11 8 (by decide) FU (by rw [FU_1000]; omega)]
      refine Or.inr ⟨hlt, nI (i + 1), sa t 6 (upd (t.2 6) i (nI (wgR (V 11 i) 8))), ⟨rfl, ⟨fun j hj => ?_, fun j h1 h2 m hm => ?_⟩, o1, fun j hj => by rw [sa_n (by omega)]; exact o2 j hj⟩, rfl⟩
      · rw [sa_i, ht.1 j hj]
        unfold dayV
        rw [if_neg (by omega : ¬ j = 11), if_neg (by omega : ¬ j = 11)]
      · by_cases ej : j = 11
        · subst ej
          rw [sa_s]
          show _ = nI (if m < i + 1 then wgR (V 11 m) 8 else V 11 m)
          by_cases em : m = i
          · subst em; rw [upd_s, if_pos (by omega)]
          · have := ht.2 11 h1 h2 m hm
            rw [upd_n em, show t.2 6 m = _ from this]
            show nI (if m < i then wgR (V 11 m) 8 else V 11 m) = _
            by_cases c : m < i
            · rw [if_pos c, if_pos (by omega)]
            · rw [if_neg c, if_neg (by omega)]
        · rw [sa_n (by omega), ht.2 j h1 h2 m hm, dayV_n ej (by omega) (by omega), dayV_n ej (by omega) (by omega)]
  · refine ⟨fun j hj => ?_, fun j h1 h2 m hm => ?_⟩
    · by_cases e3 : j = 3
      · subst e3; rw [su_s]; rfl
      · by_cases e5 : j = 5
        · subst e5; rw [su_n (by decide), su_s]; rfl
        · rw [su_n (by omega), su_n (by omega), dayV_n (by omega) e5 e3]; exact hM.1 j hj
    · rw [su_a, su_a, hM.2 j h1 h2 m hm]
      by_cases ej : j = 11
      · subst ej
        show _ = nI (if m < 0 then wgR (V 11 m) 8 else V 11 m)
        rw [if_neg (by omega)]
      · rw [dayV_n ej (by omega) (by omega)]
theorem q_day {Z : Nat → OS} {S : OS} (h : Rel Z S) : Out (f_X7_day Z) (f_X8_day S) := by
  obtain ⟨V, hh⟩ := id h
  obtain ⟨⟨hT, hM, hB, hL⟩, -, -, -, -, n, p, B, n8, p9, pn, rn, pp, -⟩ := id hh
  obtain ⟨F, f0, f1, f2⟩ := hold_C hT p9 pp
  obtain ⟨S1, s0, s1⟩ := keeps_M hM n8 rn
  have hM1 := Kpt_MR s1 hM
  have hd := hL.2.2.1
  unfold f_X7_day f_X8_day
  rw [f0, Option.bind_some, show S.1 12 = nI (V 5 0) from hM.1 5 (by decide)]
  by_cases e : V 5 0 = 999
  · rw [if_pos (show nI (V 5 0) = (999 : Int32) by rw [e]; rfl)]
    rw [show f_X6_nextDay (Z 1) = some (-6, Z 1) by unfold f_X6_nextDay; rw [hT.1 5 (by decide), if_neg (by rw [e]; decide)]]
    exact ch_no hh p9 pp f2 (by decide) m6 (by decide)
  · have h9 : V 5 0 < 999 := by omega
    obtain ⟨T', t0, t1⟩ := nday_C hT hB hL h9
    obtain ⟨S', g0, g1, g2⟩ := gday_M hM1 hB hL
    have eM : (f_X8_keepsBack S).bind (fun x1 => (f_X8_goesDay x1).bind fun x2 => some ((x2.1 12), x2)) = some (nI (V 5 0 + 1), S') := by
      rw [s0, Option.bind_some, g0, Option.bind_some, show S'.1 12 = nI (V 5 0 + 1) from g1.1 5 (by decide)]
    rw [if_neg (fun q : nI (V 5 0) = (999 : Int32) => e ((nI_eq (b := 999) (by omega) (by decide)).mp q)), t0, eM]
    exact ch_yes hh pn n8 p9 pp f1 f2 s1 g2 t1 g1 (dayV_WB hB) (dayV_WL hL h9) dayV_S (by omega)
