/-! PURE: the town grows -/
theorem gr_no {Z : Nat → OS} {S : OS} (h : Rel Z S) {k : Nat} (hk : k < 7) {x : Int32} (hx : -x = nI k) (h0 : ¬ 0 ≤ x) : Out ((some (x, Z 1)).bind fun x1 => (f_X7_grown (upA Z 1 x1.2) x1.1).bind fun x2 => some (x2.1, x2.2)) ((f_X8_no S x).bind fun y => some (y.1, y.2)) := by
  rw [Option.bind_some]
  simp only [upA_id]
  unfold f_X7_grown
  rw [if_neg h0, ref_C hk hx, ref_M hk hx]
  exact out_ok (Rel_ref h hk)
theorem gr_yes {V V' : Nat → Nat → Nat} {Z : Nat → OS} {S S' T' : OS} {r : Nat} (h : Full V Z S) (hr : r < 2 ^ 31) (hT : TR V' T') (hM : MR V' S') (hB : WB V') (hL : WL V') (f : FR S S') (h24 : S'.1 24 = 0) : Out ((some (nI r, T')).bind fun x1 => (f_X7_grown (upA Z 1 x1.2) x1.1).bind fun x2 => some (x2.1, x2.2)) (some (nI r, S')) := by
  obtain ⟨n, p, B, h1, h2, h3, h4, h5, h6⟩ := h.2.2.2.2.2
  rw [Option.bind_some]
  unfold f_X7_grown
  rw [if_pos (nI_pos' hr)]
  have e4 : upA Z 1 T' 4 = Z 4 := upA_n (by decide)
  have z4 : upA (upA Z 1 T') 4 (su (upA Z 1 T' 4) 0 0) 4 = su (Z 4) 0 0 := by rw [upA_s, e4]
  have zn : ∀ j, j ≠ 1 → j ≠ 4 → upA (upA Z 1 T') 4 (su (upA Z 1 T' 4) 0 0) j = Z j := fun j q1 q2 => by rw [upA_n q2, upA_n q1]
  have hRel : Rel (upA (upA Z 1 T') 4 (su (upA Z 1 T' 4) 0 0)) S' := Rel_new (V' := V') h ⟨by rw [upA_n (by decide), upA_s]; exact hT, hM, hB, hL⟩ (zn 0 (by decide) (by decide)) (zn 2 (by decide) (by decide)) (zn 5 (by decide) (by decide)) (zn 6 (by decide) (by decide)) f (Past_0 h2 (by rw [z4, su_s]) h24 (by rw [z4, su_n (by decide)]; exact h5))
  exact out_ok hRel
/-- a street more -/
def vS (V : Nat → Nat → Nat) (k f m : Nat) : Nat → Nat → Nat := fun a b => if a = 0 then (if b = 0 then V 0 0 + 1 else V 0 b) else if a = 6 then (if b = V 0 0 then k else V 6 b) else if a = 7 then (if b = V 0 0 then f else V 7 b) else if a = 8 then (if b = V 0 0 then m else V 8 b) else V a b
theorem vS_WB {V : Nat → Nat → Nat} (hB : WB V) {k f m : Nat} (h0 : V 0 0 < 8) (hk : k ≤ 5) (hf : f ≤ 9) (hm : m ≤ 9) : WB (vS V k f m) := by
  obtain ⟨b1, b2, b3, b4, b5⟩ := hB
  refine ⟨?_, b2, b3, fun s hs => ⟨?_, ?_, ?_⟩, fun w hw => ?_⟩
  · show V 0 0 + 1 ≤ 8
    omega
  · show (if s = V 0 0 then k else V 6 s) ≤ 5
    have := (b4 s hs).1
    split <;> omega
  · show (if s = V 0 0 then f else V 7 s) ≤ 9
    have := (b4 s hs).2.1
    split <;> omega
  · show (if s = V 0 0 then m else V 8 s) ≤ 9
    have := (b4 s hs).2.2
    split <;> omega
  · have h1 := b5 w hw
    show 1 ≤ V 9 w ∧ V 9 w < 2 ^ (V 0 0 + 1)
    rw [Nat.pow_succ]
    omega
theorem vS_WL {V : Nat → Nat → Nat} (hL : WL V) {k f m : Nat} : WL (vS V k f m) := by
  obtain ⟨l1, l2, l3, l4⟩ := hL
  refine ⟨l1, l2, l3, fun l hl => ⟨(l4 l hl).1, ?_⟩⟩
  have := (l4 l hl).2
  show V 11 l < 2 ^ (V 0 0 + 1)
  rw [Nat.pow_succ]
  omega
theorem vS_TR {V : Nat → Nat → Nat} {T : OS} (hT : TR V T) {k f m : Nat} : TR (vS V k f m) (su (sa (sa (sa T 6 (upd (T.2 6) (V 0 0) (nI k))) 7 (upd (T.2 7) (V 0 0) (nI f))) 8 (upd (T.2 8) (V 0 0) (nI m))) 0 (nI (V 0 0 + 1))) := by
  refine ⟨fun i hi => ?_, fun i h1 h2 j hj => ?_⟩
  · by_cases e : i = 0
    · subst e; rw [su_s]; rfl
    · rw [su_n e]
      have : vS V k f m i 0 = V i 0 := by unfold vS; rw [if_neg e, if_neg (by omega), if_neg (by omega), if_neg (by omega)]
      rw [this]; exact hT.1 i hi
  · have h := hT.2 i h1 h2 j hj
    rw [su_a]
    rcases ofK_in h1 h2 with ⟨rfl, -⟩ | ⟨rfl, -⟩ | ⟨rfl, -⟩ | ⟨rfl, -⟩ | ⟨rfl, -⟩ | ⟨rfl, -⟩
    · rw [sa_n (by decide), sa_n (by decide), sa_s]
      show _ = nI (if j = V 0 0 then k else V 6 j)
      by_cases e : j = V 0 0
      · rw [if_pos e, e, upd_s]
      · rw [if_neg e, upd_n e]; exact h
    · rw [sa_n (by decide), sa_s]
      show _ = nI (if j = V 0 0 then f else V 7 j)
      by_cases e : j = V 0 0
      · rw [if_pos e, e, upd_s]
      · rw [if_neg e, upd_n e]; exact h
    · rw [sa_s]
      show _ = nI (if j = V 0 0 then m else V 8 j)
      by_cases e : j = V 0 0
      · rw [if_pos e, e, upd_s]
      · rw [if_neg e, upd_n e]; exact h
    · exact h
    · exact h
    · exact h
theorem vS_MR {V : Nat → Nat → Nat} {S : OS} (hM : MR V S) {k f m : Nat} : MR (vS V k f m) (su (sa (sa (sa S 1 (upd (S.2 1) (V 0 0) (nI k))) 2 (upd (S.2 2) (V 0 0) (nI f))) 3 (upd (S.2 3) (V 0 0) (nI m))) 7 (nI (V 0 0 + 1))) := by
  refine ⟨fun i hi => ?_, fun i h1 h2 j hj => ?_⟩
  · by_cases e : i = 0
    · subst e; rw [su_s]; rfl
    · rw [su_n (by omega)]
      have : vS V k f m i 0 = V i 0 := by unfold vS; rw [if_neg e, if_neg (by omega), if_neg (by omega), if_neg (by omega)]
      rw [this]; exact hM.1 i hi
  · have h := hM.2 i h1 h2 j hj
    rw [su_a]
    rcases ofK_in h1 h2 with ⟨rfl, -⟩ | ⟨rfl, -⟩ | ⟨rfl, -⟩ | ⟨rfl, -⟩ | ⟨rfl, -⟩ | ⟨rfl, -⟩
    · rw [sa_n (by decide), sa_n (by decide), sa_s]
      show _ = nI (if j = V 0 0 then k else V 6 j)
      by_cases e : j = V 0 0
      · rw [if_pos e, e, upd_s]
      · rw [if_neg e, upd_n e]; exact h
    · rw [sa_n (by decide), sa_s]
      show _ = nI (if j = V 0 0 then f else V 7 j)
      by_cases e : j = V 0 0
      · rw [if_pos e, e, upd_s]
      · rw [if_neg e, upd_n e]; exact h
    · rw [sa_s]
      show _ = nI (if j = V 0 0 then m else V 8 j)
      by_cases e : j = V 0 0
      · rw [if_pos e, e, upd_s]
      · rw [if_neg e, upd_n e]; exact h
    · exact h
    · exact h
    · exact h
theorem addS_C {V : Nat → Nat → Nat} {T : OS} (hT : TR V T) {k f m : Nat} (h0 : V 0 0 < 8) (hk : k ≤ 5) (hf : f ≤ 9) (hm : 1 ≤ m) (hm9 : m ≤ 9) : f_X6_addStreet T (nI k) (nI f) (nI m) = some (nI (V 0 0), su (sa (sa (sa T 6 (upd (T.2 6) (V 0 0) (nI k))) 7 (upd (T.2 7) (V 0 0) (nI f))) 8 (upd (T.2 8) (V 0 0) (nI m))) 0 (nI (V 0 0 + 1))) := by
  unfold f_X6_addStreet
  rw [if_neg (nI_pos (by omega)), if_pos (show nI k < (6 : Int32) from nI_lt (b := 6) (by omega) (by decide)), if_neg (nI_pos (by omega)), if_pos (show (1 : Int32) ≤ nI m from nI_le (a := 1) hm (by omega)), if_neg (show ¬ (9 : Int32) < nI f from nI_nlt (a := 9) hf (by decide)), if_neg (show ¬ (9 : Int32) < nI m from nI_nlt (a := 9) hm9 (by decide)), hT.1 0 (by decide), if_pos (show nI (V 0 0) < (8 : Int32) from nI_lt (b := 8) h0 (by decide)), store_in h0 (by decide), Option.bind_some, store_in h0 (by decide), Option.bind_some, store_in h0 (by decide), Option.bind_some, nI_1, m1_add]
theorem addS_M {V : Nat → Nat → Nat} {S : OS} (hM : MR V S) {k f m : Nat} (h0 : V 0 0 < 8) : f_X8_addsStreet S (nI k) (nI f) (nI m) = some (su (sa (sa (sa S 1 (upd (S.2 1) (V 0 0) (nI k))) 2 (upd (S.2 2) (V 0 0) (nI f))) 3 (upd (S.2 3) (V 0 0) (nI m))) 7 (nI (V 0 0 + 1))) := by
  have e7 : S.1 7 = nI (V 0 0) := hM.1 0 (by decide)
  unfold f_X8_addsStreet
  rw [e7]
  simp only [inb_nI h0 (show 8 < 2 ^ 31 by decide), nI_clamp (show V 0 0 < 2 ^ 31 by omega), ↓reduceIte]
  rw [show nI (V 0 0) + (1 : Int32) = nI (V 0 0 + 1) from nI_1 _]
theorem q_street {Z : Nat → OS} {S : OS} (h : Rel Z S) (v1 v2 v3 : Int32) : Out (f_X7_street Z v1 v2 v3) (f_X8_street S v1 v2 v3) := by
  obtain ⟨V, hh⟩ := id h
  obtain ⟨⟨hT, hM, hB, hL⟩, -⟩ := id hh
  have h8 := hB.1
  have no : ∀ x : Int32, ¬ x = 0 → j_X8_street_55 v1 v2 v3 x S = (f_X8_no S x).bind fun y => some (y.1, y.2) := by
    intro x hx
    unfold j_X8_street_55
    rw [if_neg hx]
  unfold f_X7_street f_X8_street j_X8_street_23 j_X8_street_49
  rw [no (-2) (by decide), no (-4) (by decide), no (-6) (by decide), show S.1 7 = nI (V 0 0) from hM.1 0 (by decide)]
  rcases whi (n := 5) (by decide) v1 with ⟨k, hk, rfl, e⟩ | ⟨hj, e⟩
  · rw [show f_X8_isIn (nI k) 0 5 = some 1 from e, Option.bind_some, if_neg n10]
    have hk6 : nI k < (6 : Int32) := nI_lt (b := 6) (by omega) (by decide)
    by_cases c2 : v2 < 0
    · rw [if_pos c2]
      rw [show f_X6_addStreet (Z 1) (nI k) v2 v3 = some (-4, Z 1) by unfold f_X6_addStreet; rw [if_neg (nI_pos (by omega)), if_pos hk6, if_pos c2]]
      exact gr_no h (by decide) m4 (by decide)
    · rw [if_neg c2]
      by_cases c3 : 1 ≤ v3
      · rw [if_pos c3]
        by_cases c4 : 9 < v2
        · rw [if_pos c4]
          rw [show f_X6_addStreet (Z 1) (nI k) v2 v3 = some (-6, Z 1) by unfold f_X6_addStreet; rw [if_neg (nI_pos (by omega)), if_pos hk6, if_neg c2, if_pos c3, if_pos c4]]
          exact gr_no h (by decide) m6 (by decide)
        · rw [if_neg c4]
          by_cases c5 : 9 < v3
          · rw [if_pos c5]
            rw [show f_X6_addStreet (Z 1) (nI k) v2 v3 = some (-6, Z 1) by unfold f_X6_addStreet; rw [if_neg (nI_pos (by omega)), if_pos hk6, if_neg c2, if_pos c3, if_neg c4, if_pos c5]]
            exact gr_no h (by decide) m6 (by decide)
          · rw [if_neg c5]
            by_cases c6 : V 0 0 = 8
            · rw [if_pos (show nI (V 0 0) = (8 : Int32) by rw [c6]; rfl)]
              rw [show f_X6_addStreet (Z 1) (nI k) v2 v3 = some (-6, Z 1) by unfold f_X6_addStreet; rw [if_neg (nI_pos (by omega)), if_pos hk6, if_neg c2, if_pos c3, if_neg c4, if_neg c5, hT.1 0 (by decide), if_neg (by rw [c6]; decide)]]
              exact gr_no h (by decide) m6 (by decide)
            · have h0 : V 0 0 < 8 := by omega
              obtain ⟨f, hf, rfl⟩ := nI_of c2
              have f9 : f ≤ 9 := Nat.le_of_not_lt fun q : 9 < f => c4 (nI_lt (a := 9) q hf)
              have c3' : ¬ v3 < 0 := fun q => by
                have t1 := Int32.le_iff_toInt_le.mp c3
                have t2 := Int32.lt_iff_toInt_lt.mp q
                have e0 : (0 : Int32).toInt = 0 := by decide
                have e1 : (1 : Int32).toInt = 1 := by decide
                omega
              obtain ⟨m, hm, rfl⟩ := nI_of c3'
              have m9 : m ≤ 9 := Nat.le_of_not_lt fun q : 9 < m => c5 (nI_lt (a := 9) q hm)
              have m1 : 1 ≤ m := (nI_leI (a := 1) (by decide) hm).mp c3
              have hM24 : MR V (su S 24 0) := MR_su hM (by decide)
              rw [if_neg (fun q : nI (V 0 0) = (8 : Int32) => c6 ((nI_eq (b := 8) (by omega) (by decide)).mp q)), addS_C hT h0 hk f9 m1 m9]
              have eR : j_X8_street_55 (nI k) (nI f) (nI m) 0 S = some (nI (V 0 0), su (sa (sa (sa (su S 24 0) 1 (upd ((su S 24 0).2 1) (V 0 0) (nI k))) 2 (upd ((su S 24 0).2 2) (V 0 0) (nI f))) 3 (upd ((su S 24 0).2 3) (V 0 0) (nI m))) 7 (nI (V 0 0 + 1))) := by
                unfold j_X8_street_55
                rw [if_pos rfl, addS_M hM24 h0, Option.bind_some, su_s, m1_add]
              rw [eR]
              exact gr_yes hh (by omega) (vS_TR hT) (vS_MR hM24) (vS_WB hB h0 hk f9 m9) (vS_WL hL) ⟨rfl, rfl, rfl, rfl, rfl, rfl, fun _ _ => rfl⟩ rfl
      · rw [if_neg c3]
        rw [show f_X6_addStreet (Z 1) (nI k) v2 v3 = some (-4, Z 1) by unfold f_X6_addStreet; rw [if_neg (nI_pos (by omega)), if_pos hk6, if_neg c2, if_neg c3]]
        exact gr_no h (by decide) m4 (by decide)
  · rw [show f_X8_isIn v1 0 5 = some 0 from e, Option.bind_some, if_pos rfl]
    have : f_X6_addStreet (Z 1) v1 v2 v3 = some (-2, Z 1) := by
      unfold f_X6_addStreet
      by_cases c : v1 < 0
      · rw [if_pos c]
      · obtain ⟨j, hj2, rfl⟩ := nI_of c
        rw [if_neg c, if_neg (show ¬ nI j < (6 : Int32) from fun q => hj j (by have := (nI_ltI hj2 (b := 6) (by decide)).mp q; omega) rfl)]
    rw [this]
    exact gr_no h (by decide) m2 (by decide)
/-- a way more -/
def vW (V : Nat → Nat → Nat) (t : Nat) : Nat → Nat → Nat := fun a b => if a = 1 then (if b = 0 then V 1 0 + 1 else V 1 b) else if a = 9 then (if b = V 1 0 then t else V 9 b) else V a b
theorem vW_WB {V : Nat → Nat → Nat} (hB : WB V) {t : Nat} (h0 : V 1 0 < 6) (h1 : 1 ≤ t) (h2 : t < 2 ^ V 0 0) : WB (vW V t) := by
  obtain ⟨b1, b2, b3, b4, b5⟩ := hB
  refine ⟨b1, ?_, b3, b4, fun w hw => ?_⟩
  · show V 1 0 + 1 ≤ 6
    omega
  · have hw' : w < V 1 0 + 1 := hw
    show 1 ≤ (if w = V 1 0 then t else V 9 w) ∧ (if w = V 1 0 then t else V 9 w) < 2 ^ V 0 0
    by_cases e : w = V 1 0
    · rw [if_pos e]; exact ⟨h1, h2⟩
    · rw [if_neg e]; exact b5 w (by omega)
theorem vW_TR {V : Nat → Nat → Nat} {T : OS} (hT : TR V T) {t : Nat} : TR (vW V t) (su (sa T 9 (upd (T.2 9) (V 1 0) (nI t))) 1 (nI (V 1 0 + 1))) := by
  refine ⟨fun i hi => ?_, fun i h1 h2 j hj => ?_⟩
  · by_cases e : i = 1
    · subst e; rw [su_s]; rfl
    · rw [su_n e]
      have : vW V t i 0 = V i 0 := by unfold vW; rw [if_neg e, if_neg (by omega)]
      rw [this]; exact hT.1 i hi
  · have h := hT.2 i h1 h2 j hj
    rw [su_a]
    by_cases e9 : i = 9
    · subst e9
      rw [sa_s]
      show _ = nI (if j = V 1 0 then t else V 9 j)
      by_cases e : j = V 1 0
      · rw [if_pos e, e, upd_s]
      · rw [if_neg e, upd_n e]; exact h
    · rw [sa_n e9]
      have : vW V t i j = V i j := by unfold vW; rw [if_neg (by omega), if_neg e9]
      rw [this]; exact h
theorem vW_MR {V : Nat → Nat → Nat} {S : OS} (hM : MR V S) {t : Nat} : MR (vW V t) (su (sa S 4 (upd (S.2 4) (V 1 0) (nI t))) 8 (nI (V 1 0 + 1))) := by
  refine ⟨fun i hi => ?_, fun i h1 h2 j hj => ?_⟩
  · by_cases e : i = 1
    · subst e; rw [su_s]; rfl
    · rw [su_n (by omega)]
      have : vW V t i 0 = V i 0 := by unfold vW; rw [if_neg e, if_neg (by omega)]
      rw [this]; exact hM.1 i hi
  · have h := hM.2 i h1 h2 j hj
    rw [su_a]
    by_cases e9 : i = 9
    · subst e9
      rw [sa_s]
      show _ = nI (if j = V 1 0 then t else V 9 j)
      by_cases e : j = V 1 0
      · rw [if_pos e, e, upd_s]
      · rw [if_neg e, upd_n e]; exact h
    · rw [sa_n (by omega)]
      have : vW V t i j = V i j := by unfold vW; rw [if_neg (by omega), if_neg e9]
      rw [this]; exact h
theorem addW_C {V : Nat → Nat → Nat} {T : OS} (hT : TR V T) (hB : WB V) {t : Nat} (h0 : V 1 0 < 6) (h1 : 1 ≤ t) (h2 : t < 2 ^ V 0 0) : f_X6_addWay T (nI t) = some (nI (V 1 0), su (sa T 9 (upd (T.2 9) (V 1 0) (nI t))) 1 (nI (V 1 0 + 1))) := by
  have hp8 := p2_8 hB.1
  unfold f_X6_addWay
  rw [if_pos (show (1 : Int32) ≤ nI t from nI_le (a := 1) h1 (by omega)), alls_C hT hB, Option.bind_some, if_neg (nI_nlt (by omega) (by omega)), hT.1 1 (by decide), if_pos (show nI (V 1 0) < (6 : Int32) from nI_lt (b := 6) h0 (by decide)), store_in h0 (by decide), Option.bind_some, nI_1, m1_add]
theorem q_way {Z : Nat → OS} {S : OS} (h : Rel Z S) (v1 : Int32) : Out (f_X7_way Z v1) (f_X8_way S v1) := by
  obtain ⟨V, hh⟩ := id h
  obtain ⟨⟨hT, hM, hB, hL⟩, -⟩ := id hh
  have h8 := hB.1
  have h6 := hB.2.1
  have hp8 := p2_8 h8
  have hp0 := Nat.two_pow_pos (V 0 0)
  have no : ∀ x : Int32, ¬ x = 0 → j_X8_way_35 v1 x S = (f_X8_no S x).bind fun y => some (y.1, y.2) := by
    intro x hx
    unfold j_X8_way_35
    rw [if_neg hx]
  unfold f_X7_way f_X8_way j_X8_way_29
  rw [no (-4) (by decide), no (-6) (by decide), hM.1 0 (by decide), sh1 _ (by omega), show S.1 8 = nI (V 1 0) from hM.1 1 (by decide)]
  by_cases c1 : 1 ≤ v1
  · have c1' : ¬ v1 < 0 := fun q => by
      have t1 := Int32.le_iff_toInt_le.mp c1
      have t2 := Int32.lt_iff_toInt_lt.mp q
      have e0 : (0 : Int32).toInt = 0 := by decide
      have e1 : (1 : Int32).toInt = 1 := by decide
      omega
    obtain ⟨t, ht, rfl⟩ := nI_of c1'
    have t1 : 1 ≤ t := (nI_leI (a := 1) (by decide) ht).mp c1
    rw [if_pos c1]
    by_cases c2 : 2 ^ V 0 0 ≤ t
    · rw [if_pos (nI_le c2 ht)]
      rw [show f_X6_addWay (Z 1) (nI t) = some (-6, Z 1) by unfold f_X6_addWay; rw [if_pos c1, alls_C hT hB, Option.bind_some, if_pos (nI_lt (by omega) ht)]]
      exact gr_no h (by decide) m6 (by decide)
    · rw [if_neg (nI_ge (by omega) (by omega))]
      by_cases c3 : V 1 0 = 6
      · rw [if_pos (show nI (V 1 0) = (6 : Int32) by rw [c3]; rfl)]
        rw [show f_X6_addWay (Z 1) (nI t) = some (-6, Z 1) by unfold f_X6_addWay; rw [if_pos c1, alls_C hT hB, Option.bind_some, if_neg (nI_nlt (by omega) (by omega)), hT.1 1 (by decide), if_neg (by rw [c3]; decide)]]
        exact gr_no h (by decide) m6 (by decide)
      · have h0 : V 1 0 < 6 := by omega
        have hM24 : MR V (su S 24 0) := MR_su hM (by decide)
        rw [if_neg (fun q : nI (V 1 0) = (6 : Int32) => c3 ((nI_eq (b := 6) (by omega) (by decide)).mp q)), addW_C hT hB h0 t1 (by omega)]
        unfold j_X8_way_35
        rw [if_pos rfl, show S.1 8 = nI (V 1 0) from hM.1 1 (by decide), if_pos (inb_nI h0 (by decide)), nI_clamp (by omega), nI_1, m1_add]
        exact gr_yes hh (by omega) (vW_TR hT) (vW_MR hM24) (vW_WB hB h0 t1 (by omega)) hL ⟨rfl, rfl, rfl, rfl, rfl, rfl, fun _ _ => rfl⟩ rfl
  · rw [if_neg c1]
    rw [show f_X6_addWay (Z 1) v1 = some (-4, Z 1) by unfold f_X6_addWay; rw [if_neg c1]]
    exact gr_no h (by decide) m4 (by decide)
/-- a learner more -/
def vL (V : Nat → Nat → Nat) (k : Nat) : Nat → Nat → Nat := fun a b => if a = 2 then (if b = 0 then V 2 0 + 1 else V 2 b) else if a = 10 then (if b = V 2 0 then k else V 10 b) else if a = 11 then (if b = V 2 0 then 0 else V 11 b) else V a b
theorem vL_WB {V : Nat → Nat → Nat} (hB : WB V) {k : Nat} (h0 : V 2 0 < 5) : WB (vL V k) := by
  obtain ⟨b1, b2, b3, b4, b5⟩ := hB
  exact ⟨b1, b2, show V 2 0 + 1 ≤ 5 by omega, b4, b5⟩
theorem vL_WL {V : Nat → Nat → Nat} (hL : WL V) {k : Nat} (hk : k ≤ 9) : WL (vL V k) := by
  obtain ⟨l1, l2, l3, l4⟩ := hL
  refine ⟨l1, l2, l3, fun l hl => ⟨?_, ?_⟩⟩
  · have := (l4 l hl).1
    show (if l = V 2 0 then k else V 10 l) ≤ 9
    split <;> omega
  · have := (l4 l hl).2
    show (if l = V 2 0 then 0 else V 11 l) < 2 ^ V 0 0
    split <;> omega
theorem vL_TR {V : Nat → Nat → Nat} {T : OS} (hT : TR V T) {k : Nat} : TR (vL V k) (su (sa (sa T 10 (upd (T.2 10) (V 2 0) (nI k))) 11 (upd (T.2 11) (V 2 0) 0)) 2 (nI (V 2 0 + 1))) := by
  refine ⟨fun i hi => ?_, fun i h1 h2 j hj => ?_⟩
  · by_cases e : i = 2
    · subst e; rw [su_s]; rfl
    · rw [su_n e]
      have : vL V k i 0 = V i 0 := by unfold vL; rw [if_neg e, if_neg (by omega), if_neg (by omega)]
      rw [this]; exact hT.1 i hi
  · have h := hT.2 i h1 h2 j hj
    rw [su_a]
    by_cases e9 : i = 10
    · subst e9
      rw [sa_n (by decide), sa_s]
      show _ = nI (if j = V 2 0 then k else V 10 j)
      by_cases e : j = V 2 0
      · rw [if_pos e, e, upd_s]
      · rw [if_neg e, upd_n e]; exact h
    · by_cases e11 : i = 11
      · subst e11
        rw [sa_s]
        show _ = nI (if j = V 2 0 then 0 else V 11 j)
        by_cases e : j = V 2 0
        · rw [if_pos e, e, upd_s]; rfl
        · rw [if_neg e, upd_n e]; exact h
      · rw [sa_n e11, sa_n e9]
        have : vL V k i j = V i j := by unfold vL; rw [if_neg (by omega), if_neg e9, if_neg e11]
        rw [this]; exact h
theorem vL_MR {V : Nat → Nat → Nat} {S : OS} (hM : MR V S) {k : Nat} : MR (vL V k) (su (sa (sa S 5 (upd (S.2 5) (V 2 0) (nI k))) 6 (upd (S.2 6) (V 2 0) 0)) 9 (nI (V 2 0 + 1))) := by
  refine ⟨fun i hi => ?_, fun i h1 h2 j hj => ?_⟩
  · by_cases e : i = 2
    · subst e; rw [su_s]; rfl
    · rw [su_n (by omega)]
      have : vL V k i 0 = V i 0 := by unfold vL; rw [if_neg e, if_neg (by omega), if_neg (by omega)]
      rw [this]; exact hM.1 i hi
  · have h := hM.2 i h1 h2 j hj
    rw [su_a]
    by_cases e9 : i = 10
    · subst e9
      rw [sa_n (by decide), sa_s]
      show _ = nI (if j = V 2 0 then k else V 10 j)
      by_cases e : j = V 2 0
      · rw [if_pos e, e, upd_s]
      · rw [if_neg e, upd_n e]; exact h
    · by_cases e11 : i = 11
      · subst e11
        rw [sa_s]
        show _ = nI (if j = V 2 0 then 0 else V 11 j)
        by_cases e : j = V 2 0
        · rw [if_pos e, e, upd_s]; rfl
        · rw [if_neg e, upd_n e]; exact h
      · rw [sa_n (by omega), sa_n (by omega)]
        have : vL V k i j = V i j := by unfold vL; rw [if_neg (by omega), if_neg e9, if_neg e11]
        rw [this]; exact h
theorem addL_C {V : Nat → Nat → Nat} {T : OS} (hT : TR V T) {k : Nat} (h0 : V 2 0 < 5) (hk : k ≤ 9) : f_X6_addLearner T (nI k) = some (nI (V 2 0), su (sa (sa T 10 (upd (T.2 10) (V 2 0) (nI k))) 11 (upd (T.2 11) (V 2 0) 0)) 2 (nI (V 2 0 + 1))) := by
  unfold f_X6_addLearner
  rw [if_pos (nI_pos' (by omega)), if_neg (show ¬ (9 : Int32) < nI k from nI_nlt (a := 9) hk (by decide)), hT.1 2 (by decide), if_pos (show nI (V 2 0) < (5 : Int32) from nI_lt (b := 5) h0 (by decide)), store_in h0 (by decide), Option.bind_some, store_in h0 (by decide), Option.bind_some, nI_1, m1_add]
theorem addL_M {V : Nat → Nat → Nat} {S : OS} (hM : MR V S) {k : Nat} (h0 : V 2 0 < 5) : f_X8_addsLearner S (nI k) = some (su (sa (sa S 5 (upd (S.2 5) (V 2 0) (nI k))) 6 (upd (S.2 6) (V 2 0) 0)) 9 (nI (V 2 0 + 1))) := by
  have e7 : S.1 9 = nI (V 2 0) := hM.1 2 (by decide)
  unfold f_X8_addsLearner
  rw [e7]
  simp only [inb_nI h0 (show 5 < 2 ^ 31 by decide), nI_clamp (show V 2 0 < 2 ^ 31 by omega), ↓reduceIte]
  rw [show nI (V 2 0) + (1 : Int32) = nI (V 2 0 + 1) from nI_1 _]
theorem q_learner {Z : Nat → OS} {S : OS} (h : Rel Z S) (v1 : Int32) : Out (f_X7_learner Z v1) (f_X8_learner S v1) := by
  obtain ⟨V, hh⟩ := id h
  obtain ⟨⟨hT, hM, hB, hL⟩, -⟩ := id hh
  have h5 := hB.2.2.1
  have no : ∀ x : Int32, ¬ x = 0 → j_X8_learner_23 v1 x S = (f_X8_no S x).bind fun y => some (y.1, y.2) := by
    intro x hx
    unfold j_X8_learner_23
    rw [if_neg hx]
  unfold f_X7_learner f_X8_learner
  rw [no (-6) (by decide), show S.1 9 = nI (V 2 0) from hM.1 2 (by decide)]
  rcases bnd3 (lo := 0) (hi := 9) (by decide) (by decide) v1 with ⟨k, -, hk, rfl, b1, b2, b3⟩ | ⟨b1, b2, b3⟩ | ⟨b1, b3⟩
  · rw [show f_X8_bound (nI k) 0 9 = some 0 from b3, Option.bind_some, if_pos rfl]
    by_cases c3 : V 2 0 = 5
    · rw [if_pos (show nI (V 2 0) = (5 : Int32) by rw [c3]; rfl)]
      rw [show f_X6_addLearner (Z 1) (nI k) = some (-6, Z 1) by unfold f_X6_addLearner; rw [if_pos (nI_pos' (by omega)), if_neg (show ¬ (9 : Int32) < nI k from nI_nlt (a := 9) hk (by decide)), hT.1 2 (by decide), if_neg (by rw [c3]; decide)]]
      exact gr_no h (by decide) m6 (by decide)
    · have h0 : V 2 0 < 5 := by omega
      have hM24 : MR V (su S 24 0) := MR_su hM (by decide)
      rw [if_neg (fun q : nI (V 2 0) = (5 : Int32) => c3 ((nI_eq (b := 5) (by omega) (by decide)).mp q)), addL_C hT h0 hk]
      have eR : j_X8_learner_23 (nI k) 0 S = some (nI (V 2 0), su (sa (sa (su S 24 0) 5 (upd ((su S 24 0).2 5) (V 2 0) (nI k))) 6 (upd ((su S 24 0).2 6) (V 2 0) 0)) 9 (nI (V 2 0 + 1))) := by
        unfold j_X8_learner_23
        rw [if_pos rfl, addL_M hM24 h0, Option.bind_some, su_s, m1_add]
      rw [eR]
      exact gr_yes hh (by omega) (vL_TR hT) (vL_MR hM24) (vL_WB hB h0) (vL_WL hL hk) ⟨rfl, rfl, rfl, rfl, rfl, rfl, fun _ _ => rfl⟩ rfl
  · rw [show f_X8_bound v1 0 9 = some (-6) from b3, Option.bind_some, if_neg (by decide), no _ (by decide)]
    rw [show f_X6_addLearner (Z 1) v1 = some (-6, Z 1) by unfold f_X6_addLearner; rw [if_pos (show (0 : Int32) ≤ v1 from b1), if_pos (show (9 : Int32) < v1 from i32_nle.mp b2)]]
    exact gr_no h (by decide) m6 (by decide)
  · rw [show f_X8_bound v1 0 9 = some (-4) from b3, Option.bind_some, if_neg (by decide), no _ (by decide)]
    rw [show f_X6_addLearner (Z 1) v1 = some (-4, Z 1) by unfold f_X6_addLearner; rw [if_neg (show ¬ (0 : Int32) ≤ v1 from b1)]]
    exact gr_no h (by decide) m4 (by decide)
