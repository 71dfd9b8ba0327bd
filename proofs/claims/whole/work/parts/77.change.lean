/-! PURE: changes, both sides -/
def FR (S S' : OS) : Prop := S'.2 0 = S.2 0 ∧ S'.1 17 = S.1 17 ∧ S'.2 13 = S.2 13 ∧ S'.1 26 = S.1 26 ∧ S'.2 25 = S.2 25 ∧ S'.1 21 = S.1 21 ∧ ∀ k, k < 46 → S'.2 20 k = S.2 20 k
def Full (V : Nat → Nat → Nat) (Z : Nat → OS) (S : OS) : Prop := Core V Z S ∧ Refs Z S ∧ Lets Z S ∧ Rows Z S ∧ Imag Z S ∧ Past V Z S
theorem Rel_new {V V' : Nat → Nat → Nat} {Z Z' : Nat → OS} {S S' : OS} (h : Full V Z S) (hC : Core V' Z' S') (z0 : Z' 0 = Z 0) (z2 : Z' 2 = Z 2) (z5 : Z' 5 = Z 5) (z6 : Z' 6 = Z 6) (f : FR S S') (hp : Past V' Z' S') : Rel Z' S' := by
  obtain ⟨-, hr, hl, hw, hi, -⟩ := h
  obtain ⟨f1, f2, f3, f4, f5, f6, f7⟩ := f
  exact ⟨V', hC, fun k hk => by rw [z0, f1]; exact hr k hk, Lets_cg hl z5 f2 f3, Rows_cg hw z6 f4 f5, Imag_cg hi (by rw [z0]) z2 f6 f7, hp⟩
theorem Same_sy {A B : Nat → Nat → Nat} (h : Same A B) : Same B A := ⟨fun i hi => (h.1 i hi).symm, fun i q1 q2 k hk => (h.2 i q1 q2 k hk).symm⟩
theorem q_feed {Z : Nat → OS} {S : OS} (h : Rel Z S) (v1 : Int32) : Out (f_X7_feed Z v1) (f_X8_feed S v1) := by
  obtain ⟨V, ⟨c1, c2, c3, c4⟩, hr, ⟨n, c, l1, l2, l3, l4⟩, hw, hi, hp⟩ := id h
  have no : ∀ x : Int32, ¬ x = 0 → j_X8_feed_25 v1 x S = (f_X8_no S x).bind fun y => some (y.1, y.2) := by
    intro x hx
    unfold j_X8_feed_25
    rw [if_neg hx]
  have e96 : (S.1 17 = 96) ↔ n = 96 := by rw [l3]; exact nI_eq (b := 96) (by omega) (by decide)
  unfold f_X7_feed f_X8_feed
  rcases bnd3 (lo := 0) (hi := 255) (by decide) (by decide) v1 with ⟨j, -, hj, rfl, b1, b2, b3⟩ | ⟨b1, b2, b3⟩ | ⟨b1, b3⟩
  · rw [show f_X8_bound (nI j) 0 255 = some 0 from b3, if_pos (show (0 : Int32) ≤ nI j from b1), if_neg (show ¬ (255 : Int32) < nI j from i32_nlt.mpr b2), Option.bind_some, if_pos rfl, l2]
    by_cases e : n = 96
    · rw [if_neg (show ¬ nI n < (96 : Int32) from nI_nlt (b := 96) (by omega) (by omega)), if_pos (e96.mpr e), no _ (by decide)]
      exact out_no h (by decide) m6
    · have hn : n < 96 := by omega
      rw [if_pos (show nI n < (96 : Int32) from nI_lt (b := 96) hn (by decide)), if_neg (fun q => e (e96.mp q))]
      unfold f_X0_add j_X8_feed_25
      rw [if_pos rfl, l2, l3, store_in hn (by decide), if_pos (inb_nI hn (by decide)), nI_clamp (by omega)]
      have zn : ∀ j, j ≠ 5 → ∀ T, upA Z 5 T j = Z j := fun j hj T => upA_n hj
      refine out_ok ⟨V, ⟨by rw [zn 1 (by decide)]; exact c1, MR_su (MR_sa c2 (by decide)) (by decide), c3, c4⟩, fun k hk => by rw [zn 0 (by decide), su_a, sa_n (by decide)]; exact hr k hk, ⟨n + 1, upA c n j, by omega, ?_, ?_, fun k hk => ?_⟩, Rows_cg hw (zn 6 (by decide) _) (by rw [su_n (by decide)]; rfl) (by rw [su_a, sa_n (by decide)]), Imag_cg hi (by rw [zn 0 (by decide)]) (zn 2 (by decide) _) (by rw [su_n (by decide)]; rfl) (fun _ _ => by rw [su_a, sa_n (by decide)]), Past_cg hp (zn 4 (by decide) _) (by rw [su_n (by decide)]; rfl) (by rw [su_a, sa_n (by decide)])⟩
      · rw [upA_s, su_s]; exact nI_1 n
      · rw [su_s]; exact nI_1 n
      · rw [upA_s, su_a, su_a, sa_s, sa_s]
        by_cases ek : k = n
        · subst ek; rw [upd_s, upd_s, upA_s]; exact ⟨rfl, rfl, by omega⟩
        · rw [upd_n ek, upd_n ek, upA_n ek]; exact l4 k (by omega)
  · rw [show f_X8_bound v1 0 255 = some (-6) from b3, if_pos (show (0 : Int32) ≤ v1 from b1), if_pos (show (255 : Int32) < v1 from i32_nle.mp b2), Option.bind_some, if_neg (by decide), no _ (by decide)]
    exact out_no h (by decide) m6
  · rw [show f_X8_bound v1 0 255 = some (-4) from b3, if_neg (show ¬ (0 : Int32) ≤ v1 from b1), Option.bind_some, if_neg (by decide), no _ (by decide)]
    exact out_no h (by decide) m4
theorem q_image {Z : Nat → OS} {S : OS} (h : Rel Z S) : Out (f_X7_image Z) (f_X8_image S) := by
  obtain ⟨V, ⟨c1, c2, c3, c4⟩, hr, hl, hw, hi, hp⟩ := id h
  obtain ⟨T', t1, t2⟩ := copy_C (T := Z 2) c1
  have hM2 : MR V (su S 21 1) := MR_su c2 (by decide)
  obtain ⟨S', a1, a2⟩ := save_M (S := su S 21 1) (b := 0) (by decide)
  have hK := SVD_KP a2 hM2
  obtain ⟨s1, s2, s3, s4, s5, s6, s7⟩ := a2
  have hM3 : MR V S' := MR_cg hM2 (fun j j1 j2 => s3 j (by omega) (by omega)) (fun j j1 j2 => s4 j (by omega))
  unfold f_X7_image f_X8_image
  rw [t1, show f_X8_passesAll (su S 21 1) 0 1 = _ from a1, Option.bind_some, Option.bind_some, c1.1 5 (by decide), show S'.1 12 = nI (V 5 0) from hM3.1 5 (by decide)]
  have z2 : upA (upA Z 0 (su (Z 0) 10 1)) 2 T' 2 = T' := upA_s
  have z0 : upA (upA Z 0 (su (Z 0) 10 1)) 2 T' 0 = su (Z 0) 10 1 := by rw [upA_n (by decide), upA_s]
  have zn : ∀ j, j ≠ 0 → j ≠ 2 → upA (upA Z 0 (su (Z 0) 10 1)) 2 T' j = Z j := fun j h0 h2 => by rw [upA_n h2, upA_n h0]
  refine out_ok ⟨V, ⟨by rw [zn 1 (by decide) (by decide)]; exact c1, hM3, c3, c4⟩, fun k hk => ?_, Lets_cg hl (zn 5 (by decide) (by decide)) (by rw [s3 17 (by decide) (by decide), su_n (by decide)]) (by rw [s4 13 (by decide)]; rfl), Rows_cg hw (zn 6 (by decide) (by decide)) (by rw [s3 26 (by decide) (by decide), su_n (by decide)]) (by rw [s4 25 (by decide)]; rfl), Or.inr ⟨by rw [z0, su_s], by rw [s3 21 (by decide) (by decide), su_s], V, by rw [z2]; exact t2, hK, c3, c4⟩, ?_⟩
  · rw [z0, s4 0 (by decide)]
    exact hr k hk
  · obtain ⟨n, p, B, h1, h2, h3, h4, h5, h6⟩ := hp
    refine ⟨n, p, B, h1, h2, by rw [zn 4 (by decide) (by decide)]; exact h3, by rw [s3 24 (by decide) (by decide), su_n (by decide)]; exact h4, by rw [zn 4 (by decide) (by decide)]; exact h5, fun j hj => ?_⟩
    obtain ⟨g1, g2, g3, g4, g5⟩ := h6 j hj
    refine ⟨KP_cg g1 fun x hx => ?_, g2, g3, g4, by rw [zn 4 (by decide) (by decide)]; exact g5⟩
    rw [s7 _ (by omega)]
    rfl
theorem LDD_FR {S0 S : OS} {b : Nat} (h : LDD S0 b 46 S) : FR S0 S := by
  obtain ⟨s1, s2, s3, s4, s5, s6⟩ := h
  exact ⟨s4 0 (by omega), s3 17 (by omega) (by decide) (by decide), s4 13 (by omega), s3 26 (by omega) (by decide) (by decide), s4 25 (by omega), s3 21 (by omega) (by decide) (by decide), fun k _ => by rw [s4 20 (by omega)]⟩
theorem q_restore {Z : Nat → OS} {S : OS} (h : Rel Z S) : Out (f_X7_restore Z) (f_X8_restore S) := by
  obtain ⟨V, hh⟩ := id h
  obtain ⟨⟨c1, c2, c3, c4⟩, hr, hl, hw, hi, hp⟩ := id hh
  unfold f_X7_restore f_X8_restore
  rcases hi with ⟨i1, i2⟩ | ⟨i1, i2, U, u1, u2, u3, u4⟩
  · rw [if_pos i1, if_pos i2]
    exact out_no h (by decide) m3
  · obtain ⟨T', t1, t2⟩ := copy_C (T := Z 1) u1
    obtain ⟨S', a1, a2⟩ := load_M (S := S) (b := 0) (by decide)
    have hM := LDD_MR a2 u2
    have hF := LDD_FR a2
    obtain ⟨n, p, B, h1, h2, h3, h4, h5, h6⟩ := hp
    rw [if_neg (by rw [i1]; decide), if_neg (by rw [i2]; decide), t1, show f_X8_passesAll S 0 0 = _ from a1, Option.bind_some, Option.bind_some, t2.1 5 (by decide), show S'.1 12 = nI (U 5 0) from hM.1 5 (by decide)]
    have z4 : upA (upA Z 1 T') 4 (su (Z 4) 0 0) 4 = su (Z 4) 0 0 := upA_s
    have zn : ∀ j, j ≠ 1 → j ≠ 4 → upA (upA Z 1 T') 4 (su (Z 4) 0 0) j = Z j := fun j q1 q2 => by rw [upA_n q2, upA_n q1]
    obtain ⟨f1, f2, f3, f4, f5, f6, f7⟩ := hF
    exact out_ok (Rel_new (V' := U) hh ⟨by rw [upA_n (by decide), upA_s]; exact t2, MR_su hM (by decide), u3, u4⟩ (zn 0 (by decide) (by decide)) (zn 2 (by decide) (by decide)) (zn 5 (by decide) (by decide)) (zn 6 (by decide) (by decide)) ⟨f1, by rw [su_n (by decide)]; exact f2, f3, by rw [su_n (by decide)]; exact f4, f5, by rw [su_n (by decide)]; exact f6, f7⟩ (Past_0 h2 (by rw [z4, su_s]) su_s (by rw [z4, su_n (by decide)]; exact h5)))
theorem q_back {Z : Nat → OS} {S : OS} (h : Rel Z S) : Out (f_X7_back Z) (f_X8_back S) := by
  obtain ⟨V, hh⟩ := id h
  obtain ⟨⟨c1, c2, c3, c4⟩, hr, hl, hw, hi, n, p, B, h1, h2, h3, h4, h5, h6⟩ := id hh
  unfold f_X7_back f_X8_back
  rcases Nat.eq_zero_or_pos n with e | e
  · subst e
    rw [h3, h4, if_neg (by decide), if_pos (by decide)]
    exact out_no h (by decide) m3
  · obtain ⟨n, rfl⟩ : ∃ m, n = m + 1 := ⟨n - 1, by omega⟩
    obtain ⟨g1, g2, g3, g4, g5⟩ := h6 n (by omega)
    have hq : (p + 9 - (n + 1) + n) % 9 = (p + 8) % 9 := by congr 1; omega
    rw [hq] at g5
    obtain ⟨T', t1, t2⟩ := takeb_C c1 g4 h2 h3 h5 g5
    obtain ⟨S', a1, a2⟩ := load_M (S := su S 24 (nI n)) (b := 2 + n) (by omega)
    have hM : MR (B n) S' := LDD_MR a2 g1
    have hF := LDD_FR a2
    obtain ⟨s1, s2, s3, s4, s5, s6⟩ := a2
    have e24 : S'.1 24 = nI n := by rw [s3 24 (by omega) (by decide) (by decide), su_s]
    have z4 : upA (upA Z 1 T') 4 (su (su (Z 4) 1 (nI ((p + 8) % 9))) 0 (nI n)) 4 = su (su (Z 4) 1 (nI ((p + 8) % 9))) 0 (nI n) := upA_s
    have zn : ∀ j, j ≠ 1 → j ≠ 4 → upA (upA Z 1 T') 4 (su (su (Z 4) 1 (nI ((p + 8) % 9))) 0 (nI n)) j = Z j := fun j q1 q2 => by rw [upA_n q2, upA_n q1]
    rw [if_pos (show (1 : Int32) ≤ (Z 4).1 0 by rw [h3]; exact nI_le (a := 1) (by omega) (by omega)), t1, Option.bind_some, if_neg (by rw [h4]; exact nI_ne0 (by omega) (by omega)), h4, m1_add, show (2 : Int32) = nI 2 from rfl, nI_add, a1, Option.bind_some, e24]
    obtain ⟨f1, f2, f3, f4, f5, f6, f7⟩ := hF
    refine out_ok (Rel_new (V' := B n) hh ⟨by rw [upA_n (by decide), upA_s]; exact t2, hM, g2, g3⟩ (zn 0 (by decide) (by decide)) (zn 2 (by decide) (by decide)) (zn 5 (by decide) (by decide)) (zn 6 (by decide) (by decide)) ⟨f1, by rw [f2, su_n (by decide)], f3, by rw [f4, su_n (by decide)], f5, by rw [f6, su_n (by decide)], f7⟩ ⟨n, (p + 8) % 9, B, by omega, Nat.mod_lt _ (by decide), by rw [z4, su_s], e24, by rw [z4, su_n (by decide), su_s], fun j hj => ?_⟩)
    obtain ⟨k1, k2, k3, k4, k5⟩ := h6 j (by omega)
    refine ⟨by rw [s4 20 (by omega)]; exact k1, k2, k3, Same_tr k4 (Same_sy g4), ?_⟩
    have hq2 : ((p + 8) % 9 + 9 - n + j) % 9 = (p + 9 - (n + 1) + j) % 9 := by omega
    rw [hq2, z4]
    exact k5
/-! one number of the town -/
theorem TR_su {V : Nat → Nat → Nat} {T : OS} (h : TR V T) {i x : Nat} (hi : i < 6) : TR (upA V i (upA (V i) 0 x)) (su T i (nI x)) := by
  refine ⟨fun j hj => ?_, fun j h1 h2 k hk => ?_⟩
  · by_cases e : j = i
    · subst e; rw [su_s, upA_s, upA_s]
    · rw [su_n e, upA_n e]; exact h.1 j hj
  · rw [upA_n (by omega)]; exact h.2 j h1 h2 k hk
theorem TR_sa {V : Nat → Nat → Nat} {T : OS} (h : TR V T) {i k x : Nat} (hi : 6 ≤ i) : TR (upA V i (upA (V i) k x)) (sa T i (upd (T.2 i) k (nI x))) := by
  refine ⟨fun j hj => ?_, fun j h1 h2 m hm => ?_⟩
  · rw [upA_n (by omega)]; exact h.1 j hj
  · by_cases e : j = i
    · subst e
      rw [sa_s, upA_s]
      by_cases em : m = k
      · subst em; rw [upd_s, upA_s]
      · rw [upd_n em, upA_n em]; exact h.2 j h1 h2 m hm
    · rw [sa_n e, upA_n e]; exact h.2 j h1 h2 m hm
theorem MR_sui {V : Nat → Nat → Nat} {S : OS} (h : MR V S) {i x : Nat} (hi : i < 6) : MR (upA V i (upA (V i) 0 x)) (su S (i + 7) (nI x)) := by
  refine ⟨fun j hj => ?_, fun j h1 h2 k hk => ?_⟩
  · by_cases e : j = i
    · subst e; rw [su_s, upA_s, upA_s]
    · rw [su_n (by omega), upA_n e]; exact h.1 j hj
  · rw [upA_n (by omega)]; exact h.2 j h1 h2 k hk
theorem MR_sai {V : Nat → Nat → Nat} {S : OS} (h : MR V S) {i k x : Nat} (hi : 6 ≤ i) : MR (upA V i (upA (V i) k x)) (sa S (i - 5) (upd (S.2 (i - 5)) k (nI x))) := by
  refine ⟨fun j hj => ?_, fun j h1 h2 m hm => ?_⟩
  · rw [upA_n (by omega)]; exact h.1 j hj
  · by_cases e : j = i
    · subst e
      rw [sa_s, upA_s]
      by_cases em : m = k
      · subst em; rw [upd_s, upA_s]
      · rw [upd_n em, upA_n em]; exact h.2 j h1 h2 m hm
    · rw [sa_n (by omega), upA_n e]; exact h.2 j h1 h2 m hm
