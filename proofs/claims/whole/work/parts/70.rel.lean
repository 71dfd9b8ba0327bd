/-! PURE: the two sides, held to each other -/
def ofK (i : Nat) : Nat := if i = 6 then 0 else if i = 7 then 8 else if i = 8 then 16 else if i = 9 then 24 else if i = 10 then 30 else 35
/-- the kept numbers from 46 b on hold U -/
def KP (U : Nat → Nat → Nat) (b : Nat) (F : Nat → Int32) : Prop := (∀ i, i < 6 → F (46 * b + 40 + i) = nI (U i 0)) ∧ ∀ i, 6 ≤ i → i < 12 → ∀ k, k < lnT i → F (46 * b + ofK i + k) = nI (U i k)
def Refs (Z : Nat → OS) (S : OS) : Prop := ∀ k, k < 7 → (Z 0).2 9 k = S.2 0 k
def Lets (Z : Nat → OS) (S : OS) : Prop := ∃ (n : Nat) (c : Nat → Nat), n ≤ 96 ∧ (Z 5).1 0 = nI n ∧ S.1 17 = nI n ∧ ∀ k, k < n → (Z 5).2 1 k = nI (c k) ∧ S.2 13 k = nI (c k) ∧ c k < 256
def Rows (Z : Nat → OS) (S : OS) : Prop := ∃ (n : Nat) (R : Nat → Nat), (Z 6).1 0 = nI n ∧ RW R n ((Z 6).2 1) ∧ S.1 26 = nI n ∧ RW R n (S.2 25)
def Imag (Z : Nat → OS) (S : OS) : Prop := ((Z 0).1 10 = 0 ∧ S.1 21 = 0) ∨ ((Z 0).1 10 = 1 ∧ S.1 21 = 1 ∧ ∃ U, TR U (Z 2) ∧ KP U 0 (S.2 20) ∧ WB U ∧ WL U)
/-- U is V but for the hour, the limit, the day and what is known -/
def Same (U V : Nat → Nat → Nat) : Prop := (∀ i, i < 3 → U i 0 = V i 0) ∧ ∀ i, 6 ≤ i → i < 11 → ∀ k, k < lnT i → U i k = V i k
/-- the class holds U at place q -/
def HD (U : Nat → Nat → Nat) (q : Nat) (F : Nat → Int32) : Prop := F (8 * q) = nI (U 3 0) ∧ F (8 * q + 1) = nI (U 4 0) ∧ F (8 * q + 2) = nI (U 5 0) ∧ ∀ l, l < 5 → F (8 * q + 3 + l) = nI (U 11 l)
def Past (V : Nat → Nat → Nat) (Z : Nat → OS) (S : OS) : Prop := ∃ (n p : Nat) (B : Nat → Nat → Nat → Nat), n ≤ 8 ∧ p < 9 ∧ (Z 4).1 0 = nI n ∧ S.1 24 = nI n ∧ (Z 4).1 1 = nI p ∧ ∀ j, j < n → KP (B j) (2 + j) (S.2 20) ∧ WB (B j) ∧ WL (B j) ∧ Same (B j) V ∧ HD (B j) ((p + 9 - n + j) % 9) ((Z 4).2 2)
def Core (V : Nat → Nat → Nat) (Z : Nat → OS) (S : OS) : Prop := TR V (Z 1) ∧ MR V S ∧ WB V ∧ WL V
def Rel (Z : Nat → OS) (S : OS) : Prop := ∃ V, Core V Z S ∧ Refs Z S ∧ Lets Z S ∧ Rows Z S ∧ Imag Z S ∧ Past V Z S
/-- both answer, and answer the same -/
def Out {ρ : Type} (a : Option (ρ × (Nat → OS))) (b : Option (ρ × OS)) : Prop := ∃ r Z S, a = some (r, Z) ∧ b = some (r, S) ∧ Rel Z S
theorem out_ok {ρ : Type} {r : ρ} {Z : Nat → OS} {S : OS} (h : Rel Z S) : Out (some (r, Z)) (some (r, S)) := ⟨r, Z, S, rfl, rfl, h⟩
theorem upA_eq {α : Type} {f : Nat → α} {k j : Nat} {x : α} : upA f k x j = if j = k then x else f j := by simp [upA]
/-- what each part looks at -/
theorem Lets_cg {Z Z' : Nat → OS} {S S' : OS} (h : Lets Z S) (e1 : Z' 5 = Z 5) (e2 : S'.1 17 = S.1 17) (e3 : S'.2 13 = S.2 13) : Lets Z' S' := by
  obtain ⟨n, c, h1, h2, h3, h4⟩ := h
  exact ⟨n, c, h1, by rw [e1]; exact h2, by rw [e2]; exact h3, fun k hk => by rw [e1, e3]; exact h4 k hk⟩
theorem Rows_cg {Z Z' : Nat → OS} {S S' : OS} (h : Rows Z S) (e1 : Z' 6 = Z 6) (e2 : S'.1 26 = S.1 26) (e3 : S'.2 25 = S.2 25) : Rows Z' S' := by
  obtain ⟨n, R, h1, h2, h3, h4⟩ := h
  exact ⟨n, R, by rw [e1]; exact h1, by rw [e1]; exact h2, by rw [e2]; exact h3, by rw [e3]; exact h4⟩
theorem Imag_cg {Z Z' : Nat → OS} {S S' : OS} (h : Imag Z S) (e0 : (Z' 0).1 10 = (Z 0).1 10) (e1 : Z' 2 = Z 2) (e2 : S'.1 21 = S.1 21) (e3 : ∀ k, k < 46 → S'.2 20 k = S.2 20 k) : Imag Z' S' := by
  rcases h with ⟨h1, h2⟩ | ⟨h1, h2, U, h3, h4, h5, h6⟩
  · exact Or.inl ⟨by rw [e0]; exact h1, by rw [e2]; exact h2⟩
  · have hof : ∀ i, 6 ≤ i → i < 12 → ∀ k, k < lnT i → ofK i + k < 40 := by
      intro i h1 h2 k hk
      rcases (by omega : i = 6 ∨ i = 7 ∨ i = 8 ∨ i = 9 ∨ i = 10 ∨ i = 11) with q | q | q | q | q | q <;> subst q <;> simp [lnT, ofK] at hk ⊢ <;> omega
    exact Or.inr ⟨by rw [e0]; exact h1, by rw [e2]; exact h2, U, by rw [e1]; exact h3, ⟨fun i hi => by rw [e3 _ (by omega)]; exact h4.1 i hi, fun i q1 q2 k hk => by rw [e3 _ (by have := hof i q1 q2 k hk; omega)]; exact h4.2 i q1 q2 k hk⟩, h5, h6⟩
theorem Past_cg {V : Nat → Nat → Nat} {Z Z' : Nat → OS} {S S' : OS} (h : Past V Z S) (e1 : Z' 4 = Z 4) (e2 : S'.1 24 = S.1 24) (e3 : S'.2 20 = S.2 20) : Past V Z' S' := by
  obtain ⟨n, p, B, h1, h2, h3, h4, h5, h6⟩ := h
  exact ⟨n, p, B, h1, h2, by rw [e1]; exact h3, by rw [e2]; exact h4, by rw [e1]; exact h5, fun j hj => by rw [e1, e3]; exact h6 j hj⟩
/-- no past -/
theorem Past_0 {V : Nat → Nat → Nat} {Z : Nat → OS} {S : OS} {p : Nat} (hp : p < 9) (e1 : (Z 4).1 0 = 0) (e2 : S.1 24 = 0) (e3 : (Z 4).1 1 = nI p) : Past V Z S := ⟨0, p, fun _ => V, Nat.zero_le _, hp, e1, e2, e3, fun j hj => by omega⟩
/-- refusing -/
theorem ref_C {Z : Nat → OS} {k : Nat} (hk : k < 7) {x : Int32} (hx : -x = nI k) : f_X7_refuse Z x = some (x, upA Z 0 (sa (Z 0) 9 (upd ((Z 0).2 9) k ((Z 0).2 9 k + 1)))) := by
  unfold f_X7_refuse
  rw [hx, at_in hk (by decide), Option.bind_some, store_in hk (by decide), Option.bind_some]
theorem ref_M {S : OS} {k : Nat} (hk : k < 7) {x : Int32} (hx : -x = nI k) : f_X8_no S x = some (x, sa S 0 (upd (S.2 0) k (S.2 0 k + 1))) := by
  unfold f_X8_no
  rw [hx, if_pos (inb_nI hk (by decide)), if_pos (inb_nI hk (by decide)), nI_clamp (by omega)]
theorem low_M {S : OS} {k : Nat} (hk : k < 7) {x : Int32} (hx : -x = nI k) : f_X8_lowest S x = some (4000000000000000000 - x.toInt64, sa S 0 (upd (S.2 0) k (S.2 0 k + 1))) := by
  unfold f_X8_lowest
  rw [hx, if_pos (inb_nI hk (by decide)), if_pos (inb_nI hk (by decide)), nI_clamp (by omega)]
theorem MR_s0 {V : Nat → Nat → Nat} {S : OS} (h : MR V S) {f : Nat → Int32} : MR V (sa S 0 f) :=
  ⟨fun i hi => h.1 i hi, fun i h1 h2 j hj => by rw [sa_n (by omega)]; exact h.2 i h1 h2 j hj⟩
theorem Rel_ref {Z : Nat → OS} {S : OS} (h : Rel Z S) {k : Nat} (hk : k < 7) : Rel (upA Z 0 (sa (Z 0) 9 (upd ((Z 0).2 9) k ((Z 0).2 9 k + 1)))) (sa S 0 (upd (S.2 0) k (S.2 0 k + 1))) := by
  obtain ⟨V, ⟨c1, c2, c3, c4⟩, hr, hl, hw, hi, hp⟩ := h
  have zn : ∀ j, j ≠ 0 → upA Z 0 (sa (Z 0) 9 (upd ((Z 0).2 9) k ((Z 0).2 9 k + 1))) j = Z j := fun j hj => upA_n hj
  have z0 : upA Z 0 (sa (Z 0) 9 (upd ((Z 0).2 9) k ((Z 0).2 9 k + 1))) 0 = sa (Z 0) 9 (upd ((Z 0).2 9) k ((Z 0).2 9 k + 1)) := upA_s
  refine ⟨V, ⟨by rw [zn 1 (by decide)]; exact c1, MR_s0 c2, c3, c4⟩, ?_, Lets_cg hl (zn 5 (by decide)) rfl (sa_n (by decide)), Rows_cg hw (zn 6 (by decide)) rfl (sa_n (by decide)), Imag_cg hi (by rw [z0]; rfl) (zn 2 (by decide)) rfl (fun j _ => by rw [sa_n (by decide)]), Past_cg hp (zn 4 (by decide)) rfl (sa_n (by decide))⟩
  intro j hj
  rw [z0, sa_s, sa_s]
  by_cases e : j = k
  · subst e; rw [upd_s, upd_s, hr j hj]
  · rw [upd_n e, upd_n e, hr j hj]
theorem out_no {Z : Nat → OS} {S : OS} (h : Rel Z S) {k : Nat} (hk : k < 7) {x : Int32} (hx : -x = nI k) : Out ((f_X7_refuse Z x).bind fun y => some (y.1, y.2)) ((f_X8_no S x).bind fun y => some (y.1, y.2)) := by
  rw [ref_C hk hx, ref_M hk hx]
  exact out_ok (Rel_ref h hk)
theorem out_lo {Z : Nat → OS} {S : OS} (h : Rel Z S) {k : Nat} (hk : k < 7) {x : Int32} (hx : -x = nI k) : Out ((f_X7_refuseLong Z x).bind fun y => some (y.1, y.2)) ((f_X8_lowest S x).bind fun y => some (y.1, y.2)) := by
  unfold f_X7_refuseLong
  rw [ref_C hk hx, low_M hk hx]
  exact out_ok (Rel_ref h hk)
/-- scratch fields -/
theorem Rel_z7 {Z : Nat → OS} {S : OS} (h : Rel Z S) {T : OS} : Rel (upA Z 7 T) S := by
  obtain ⟨V, ⟨c1, c2, c3, c4⟩, hr, hl, hw, hi, hp⟩ := h
  have zn : ∀ j, j ≠ 7 → upA Z 7 T j = Z j := fun j hj => upA_n hj
  exact ⟨V, ⟨by rw [zn 1 (by decide)]; exact c1, c2, c3, c4⟩, fun j hj => by rw [zn 0 (by decide)]; exact hr j hj, Lets_cg hl (zn 5 (by decide)) rfl rfl, Rows_cg hw (zn 6 (by decide)) rfl rfl, Imag_cg hi (by rw [zn 0 (by decide)]) (zn 2 (by decide)) rfl (fun _ _ => rfl), Past_cg hp (zn 4 (by decide)) rfl rfl⟩
theorem Rel_s27 {Z : Nat → OS} {S : OS} (h : Rel Z S) {F : Nat → Int32} : Rel Z (sa S 27 F) := by
  obtain ⟨V, ⟨c1, c2, c3, c4⟩, hr, hl, hw, hi, hp⟩ := h
  exact ⟨V, ⟨c1, MR_sa c2 (by decide), c3, c4⟩, fun j hj => by rw [sa_n (by decide)]; exact hr j hj, Lets_cg hl rfl rfl (sa_n (by decide)), Rows_cg hw rfl rfl (sa_n (by decide)), Imag_cg hi rfl rfl rfl (fun _ _ => by rw [sa_n (by decide)]), Past_cg hp rfl rfl (sa_n (by decide))⟩
theorem Rel_s28 {Z : Nat → OS} {S : OS} (h : Rel Z S) {v : Int32} : Rel Z (su S 28 v) := by
  obtain ⟨V, ⟨c1, c2, c3, c4⟩, hr, hl, hw, hi, hp⟩ := h
  exact ⟨V, ⟨c1, MR_su c2 (by decide), c3, c4⟩, hr, Lets_cg hl rfl (su_n (by decide)) rfl, Rows_cg hw rfl (su_n (by decide)) rfl, Imag_cg hi rfl rfl (su_n (by decide)) (fun _ _ => rfl), Past_cg hp rfl (su_n (by decide)) rfl⟩
/-- is it one: on both sides -/
theorem lrn {V : Nat → Nat → Nat} {T S : OS} (hT : TR V T) (hM : MR V S) (hB : WB V) (v : Int32) : (∃ l, l < V 2 0 ∧ v = nI l ∧ f_X6_hasLearner T v = some 1 ∧ f_X8_isLearner S v = some 1) ∨ (f_X6_hasLearner T v = some 0 ∧ f_X8_isLearner S v = some 0) := by
  have h5 := hB.2.2.1
  unfold f_X6_hasLearner f_X8_isLearner
  rw [show S.1 9 = T.1 2 from (hM.1 2 (by decide)).trans (hT.1 2 (by decide)).symm]
  rcases in_C (hT.1 2 (by decide)) (by omega) v with ⟨k, h1, h2, h3⟩ | ⟨-, h3⟩
  · exact Or.inl ⟨k, h1, h2, h3, h3⟩
  · exact Or.inr ⟨h3, h3⟩
theorem wys {V : Nat → Nat → Nat} {T S : OS} (hT : TR V T) (hM : MR V S) (hB : WB V) (v : Int32) : (∃ w, w < V 1 0 ∧ v = nI w ∧ f_X6_hasWay T v = some 1 ∧ f_X8_isWay S v = some 1) ∨ (f_X6_hasWay T v = some 0 ∧ f_X8_isWay S v = some 0) := by
  have h5 := hB.2.1
  unfold f_X6_hasWay f_X8_isWay
  rw [show S.1 8 = T.1 1 from (hM.1 1 (by decide)).trans (hT.1 1 (by decide)).symm]
  rcases in_C (hT.1 1 (by decide)) (by omega) v with ⟨k, h1, h2, h3⟩ | ⟨-, h3⟩
  · exact Or.inl ⟨k, h1, h2, h3, h3⟩
  · exact Or.inr ⟨h3, h3⟩
theorem sts {V : Nat → Nat → Nat} {T S : OS} (hT : TR V T) (hM : MR V S) (hB : WB V) (v : Int32) : (∃ s, s < V 0 0 ∧ v = nI s ∧ f_X6_hasStreet T v = some 1 ∧ f_X8_isStreet S v = some 1) ∨ (f_X6_hasStreet T v = some 0 ∧ f_X8_isStreet S v = some 0) := by
  have h5 := hB.1
  unfold f_X6_hasStreet f_X8_isStreet
  rw [show S.1 7 = T.1 0 from (hM.1 0 (by decide)).trans (hT.1 0 (by decide)).symm]
  rcases in_C (hT.1 0 (by decide)) (by omega) v with ⟨k, h1, h2, h3⟩ | ⟨-, h3⟩
  · exact Or.inl ⟨k, h1, h2, h3, h3⟩
  · exact Or.inr ⟨h3, h3⟩
theorem hrs (v : Int32) : (∃ h, h < 24 ∧ v = nI h ∧ f_X7_isHour v = some 1 ∧ f_X8_isHour v = some 1) ∨ (f_X7_isHour v = some 0 ∧ f_X8_isHour v = some 0) := by
  unfold f_X7_isHour f_X8_isHour
  rcases in_C (ns := 24) (n := 24) rfl (by decide) v with ⟨k, h1, h2, h3⟩ | ⟨-, h3⟩
  · exact Or.inl ⟨k, h1, h2, h3, h3⟩
  · exact Or.inr ⟨h3, h3⟩
/-- a number between two -/
theorem i32_nlt {a b : Int32} : ¬ a < b ↔ b ≤ a := by
  rw [Int32.lt_iff_toInt_lt, Int32.le_iff_toInt_le]; omega
theorem i32_nle {a b : Int32} : ¬ a ≤ b ↔ b < a := by
  rw [Int32.lt_iff_toInt_lt, Int32.le_iff_toInt_le]; omega
theorem eit (v : Int32) : (v = 0 ∧ f_X7_isEither v = some 1 ∧ f_X8_isIn v 0 1 = some 1) ∨ (v = 1 ∧ f_X7_isEither v = some 1 ∧ f_X8_isIn v 0 1 = some 1) ∨ (v ≠ 0 ∧ v ≠ 1 ∧ f_X7_isEither v = some 0 ∧ f_X8_isIn v 0 1 = some 0) := by
  by_cases e0 : v = 0
  · subst e0; exact Or.inl ⟨rfl, by decide, by decide⟩
  · by_cases e1 : v = 1
    · subst e1; exact Or.inr (Or.inl ⟨rfl, by decide, by decide⟩)
    · refine Or.inr (Or.inr ⟨e0, e1, by unfold f_X7_isEither; rw [if_neg e0, if_neg e1], ?_⟩)
      unfold f_X8_isIn
      by_cases c : v < 0
      · rw [if_pos c]
      · obtain ⟨j, hj, rfl⟩ := nI_of c
        have h0 : j ≠ 0 := fun q => e0 (by rw [q]; rfl)
        have h1 : j ≠ 1 := fun q => e1 (by rw [q]; rfl)
        rw [if_neg c, if_pos (show (1 : Int32) < nI j from nI_lt (a := 1) (by omega) hj)]
/-- which of n: the number, or none of them -/
theorem whi {n : Nat} (hn : n < 2 ^ 31) (v : Int32) : (∃ j, j ≤ n ∧ v = nI j ∧ f_X8_isIn v 0 (nI n) = some 1) ∨ ((∀ j, j ≤ n → v ≠ nI j) ∧ f_X8_isIn v 0 (nI n) = some 0) := by
  unfold f_X8_isIn
  by_cases c : v < 0
  · refine Or.inr ⟨fun j hj q => ?_, by rw [if_pos c]⟩
    subst q
    exact nI_pos (by omega) c
  · obtain ⟨j, hj, rfl⟩ := nI_of c
    by_cases e : j ≤ n
    · exact Or.inl ⟨j, e, rfl, by rw [if_neg c, if_neg (nI_nlt e hn)]⟩
    · refine Or.inr ⟨fun i hi q => e ?_, by rw [if_neg c, if_pos (nI_lt (by omega) hj)]⟩
      have := (nI_eq hj (by omega)).mp q
      omega
theorem all3 {V : Nat → Nat → Nat} {T S : OS} (hT : TR V T) (hM : MR V S) (hB : WB V) (v1 v2 v3 : Int32) : (∃ l w h, l < V 2 0 ∧ w < V 1 0 ∧ h < 24 ∧ v1 = nI l ∧ v2 = nI w ∧ v3 = nI h ∧ f_X6_hasLearner T v1 = some 1 ∧ f_X6_hasWay T v2 = some 1 ∧ f_X7_isHour v3 = some 1 ∧ f_X8_areAll S v1 v2 v3 = some 1) ∨ (f_X8_areAll S v1 v2 v3 = some 0 ∧ (f_X6_hasLearner T v1 = some 0 ∨ (f_X6_hasLearner T v1 = some 1 ∧ f_X6_hasWay T v2 = some 0) ∨ (f_X6_hasLearner T v1 = some 1 ∧ f_X6_hasWay T v2 = some 1 ∧ f_X7_isHour v3 = some 0))) := by
  unfold f_X8_areAll
  rcases lrn hT hM hB v1 with ⟨l, a1, a2, a3, a4⟩ | ⟨a3, a4⟩
  · rcases wys hT hM hB v2 with ⟨w, b1, b2, b3, b4⟩ | ⟨b3, b4⟩
    · rcases hrs v3 with ⟨h, c1, c2, c3, c4⟩ | ⟨c3, c4⟩
      · exact Or.inl ⟨l, w, h, a1, b1, c1, a2, b2, c2, a3, b3, c3, by rw [a4, b4, c4]; rfl⟩
      · exact Or.inr ⟨by rw [a4, b4, c4]; rfl, Or.inr (Or.inr ⟨a3, b3, c3⟩)⟩
    · exact Or.inr ⟨by rw [a4, b4]; rfl, Or.inr (Or.inl ⟨a3, b3⟩)⟩
  · exact Or.inr ⟨by rw [a4]; rfl, Or.inl a3⟩
