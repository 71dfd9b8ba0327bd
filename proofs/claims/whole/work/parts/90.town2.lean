/-! PURE: town -/
theorem neg1 : ∀ q, q < 97 → (-1000 : Int32) - nI q < 0 := by decide +kernel
theorem neg2 : ∀ q, q < 97 → (-2000 : Int32) - nI q < 0 := by decide +kernel
theorem ne_m1 : ∀ q, q < 97 → ¬ nI q = (-1 : Int32) := by decide +kernel
theorem Rel_tn {V V' : Nat → Nat → Nat} {Z Z' : Nat → OS} {S S' : OS} (h : Full V Z S) (hC : Core V' Z' S') (z0 : Z' 0 = Z 0) (z2 : Z' 2 = Z 2) (z6 : Z' 6 = Z 6) (z5 : (Z' 5).1 0 = 0) (s17 : S'.1 17 = 0) (f1 : S'.2 0 = S.2 0) (f4 : S'.1 26 = S.1 26) (f5 : S'.2 25 = S.2 25) (f6 : S'.1 21 = S.1 21) (f7 : ∀ k, k < 46 → S'.2 20 k = S.2 20 k) (hp : Past V' Z' S') : Rel Z' S' := by
  obtain ⟨-, hr, hl, hw, hi, -⟩ := h
  exact ⟨V', hC, fun k hk => by rw [z0, f1]; exact hr k hk, ⟨0, fun _ => 0, Nat.zero_le _, z5, s17, fun k hk => by omega⟩, Rows_cg hw z6 f4 f5, Imag_cg hi (by rw [z0]) z2 f6 f7, hp⟩
theorem Past_fr {V : Nat → Nat → Nat} {Z Z' : Nat → OS} {S S' : OS} (h : Past V Z S) (z4 : Z' 4 = Z 4) (e2 : S'.1 24 = S.1 24) (e3 : ∀ x, 92 ≤ x → S'.2 20 x = S.2 20 x) : Past V Z' S' := by
  obtain ⟨n, p, B, h1, h2, h3, h4, h5, h6⟩ := h
  refine ⟨n, p, B, h1, h2, by rw [z4]; exact h3, by rw [e2]; exact h4, by rw [z4]; exact h5, fun j hj => ?_⟩
  obtain ⟨g1, g2, g3, g4, g5⟩ := h6 j hj
  exact ⟨KP_cg g1 fun x hx => e3 _ (by omega), g2, g3, g4, by rw [z4]; exact g5⟩
theorem wrL_le {c : Nat → Nat} {n q : Nat} (h : wrL c n = some q) : q ≤ n := by
  have key : ∀ (k p : Nat), p ≤ n → ∀ r, fA c n k p = some r → r ≤ n := by
    intro k
    induction k with
    | zero => intro p _ r hr; cases hr
    | succ k ih =>
      intro p hp r hr
      rw [fA] at hr
      by_cases e : p < n
      · rw [if_pos e] at hr
        cases hf : fS c n p with
        | some q =>
          rw [hf] at hr
          cases hr
          unfold fS at hf
          rw [if_pos e] at hf
          cases hd : dgL (c p) with
          | none => rw [hd] at hf; cases hf; omega
          | some d => rw [hd] at hf; exact (fD_le hf (by omega)).2
        | none =>
          rw [hf] at hr
          obtain ⟨d, a1, a2, a3, a4, -⟩ := fS_ok hf
          exact ih _ (by omega) r hr
      · rw [if_neg e] at hr; cases hr
  unfold wrL at h
  by_cases e : n = 0
  · rw [if_pos e] at h; cases h; omega
  · rw [if_neg e] at h; exact key 97 0 (Nat.zero_le _) q h
theorem q_town {Z : Nat → OS} {S : OS} (h : Rel Z S) : Out (f_X7_town Z) (f_X8_town S) := by
  obtain ⟨V, hh⟩ := id h
  obtain ⟨⟨hT, hM, hB, hL⟩, hr, ⟨n, c, n96, l1, l2, l3⟩, hw, hi, hp⟩ := id hh
  have hP : LT c n (Z 5) := ⟨l1, n96, fun k hk => ⟨(l3 k hk).1, (l3 k hk).2.2⟩⟩
  have hS : LM c n S := ⟨l2, n96, fun k hk => ⟨(l3 k hk).2.1, (l3 k hk).2.2⟩⟩
  obtain ⟨T0, t0, t1⟩ := copy_C (T := Z 3) hT
  obtain ⟨v, S2, e1, f1, f2, hv⟩ := parse_M hS
  have hM2 : MR V S2 := MR_cg hM (fun j j1 j2 => f1 j (by omega) (by omega)) (fun j j1 j2 => f2 j (by omega) (by omega) (by omega))
  unfold f_X7_town f_X8_town f_X0_runOn
  rw [t0, Option.bind_some, wrong_C hP, Option.bind_some, e1]
  have zA : ∀ (T' : OS) j, j ≠ 3 → j ≠ 5 → upA (upA Z 3 T') 5 (su (Z 5) 0 0) j = Z j := fun T' j j1 j2 => by rw [upA_n j2, upA_n j1]
  have zA5 : ∀ (T' : OS), (upA (upA Z 3 T') 5 (su (Z 5) 0 0) 5).1 0 = 0 := fun T' => by rw [upA_s, su_s]
  rcases hv with ⟨q, q1, rfl, q3⟩ | ⟨m, m1, m48, q1, rfl, m19, mn, mg, mp⟩
  · have hq := wrL_le q1
    have hRel : Rel (upA (upA Z 3 T0) 5 (su (Z 5) 0 0)) (su S2 17 0) := Rel_tn hh ⟨by rw [zA _ 1 (by decide) (by decide)]; exact hT, MR_su hM2 (by decide), hB, hL⟩ (zA _ 0 (by decide) (by decide)) (zA _ 2 (by decide) (by decide)) (zA _ 6 (by decide) (by decide)) (zA5 _) su_s (f2 0 (by decide) (by decide) (by decide)) (by rw [su_n (by decide)]; exact f1 26 (by decide) (by decide)) (f2 25 (by decide) (by decide) (by decide)) (by rw [su_n (by decide)]; exact f1 21 (by decide) (by decide)) (fun k hk => by rw [su_a, f2 20 (by decide) (by decide) (by decide)]) (Past_fr hp (zA _ 4 (by decide) (by decide)) (by rw [su_n (by decide)]; exact f1 24 (by decide) (by decide)) (fun x _ => by rw [su_a, f2 20 (by decide) (by decide) (by decide)]))
    have eC : ((if nI q = (-1 : Int32) then Lp4 (b_X0_runOn_24 (Z 5)) FU 0 0 0 T0 else some ((-1000 : Int32) - nI q, T0)).bind fun x2 => if x2.1 < 0 then some (x2.1, upA (upA Z 3 x2.2) 5 (su (Z 5) 0 0)) else (f_X6_copyFrom (Z 1) x2.2).bind fun x3 => some (x2.1, upA (upA (upA (upA Z 1 x3) 3 x2.2) 4 (su (Z 4) 0 0)) 5 (su (Z 5) 0 0))) = some ((-1000 : Int32) - nI q, upA (upA Z 3 T0) 5 (su (Z 5) 0 0)) := by
      rw [if_neg (ne_m1 q (by omega)), Option.bind_some, if_pos (neg1 q (by omega))]
    have eM : j_X8_town_60 0 S2 = some ((-1000 : Int32) - nI q, su S2 17 0) := by
      unfold j_X8_town_60
      rw [if_pos rfl, q3]
    rw [q1]
    exact ⟨_, _, _, eC, eM, hRel⟩
  · have hM3 : MR V (su S2 17 0) := MR_su hM2 (by decide)
    obtain ⟨S3, a1, a2⟩ := save_M (S := su S2 17 0) (b := 1) (by decide)
    have hK := SVD_KP a2 hM3
    obtain ⟨s1, s2, s3, s4, s5, s6, s7⟩ := a2
    have hM4 : MR V S3 := MR_cg hM3 (fun j j1 j2 => s3 j (by omega) (by omega)) (fun j j1 j2 => s4 j (by omega))
    have h19 : S3.1 19 = nI m := by rw [s3 19 (by decide) (by decide), su_n (by decide)]; exact m19
    have hR : PRC c m S3 := fun i hi => by rw [s4 14 (by decide), s4 15 (by decide), s4 16 (by decide)]; exact mp i hi
    have e17 : S3.1 17 = 0 := by rw [s3 17 (by decide) (by decide), su_s]
    have e1' : ∀ x, x ≠ 17 → x ≠ 18 → x ≠ 19 → x ≠ 22 → x ≠ 23 → S3.1 x = S.1 x := fun x x1 x2 x3 x4 x5 => by rw [s3 x x4 x5, su_n x1, f1 x x2 x3]
    have e2' : ∀ x, x ≠ 14 → x ≠ 15 → x ≠ 16 → x ≠ 20 → S3.2 x = S.2 x := fun x x1 x2 x3 x4 => by rw [s4 x x4, su_a, f2 x x1 x2 x3]
    have e20 : ∀ x, (x < 46 ∨ 92 ≤ x) → S3.2 20 x = S.2 20 x := fun x hx => by rw [s7 x (by omega), su_a, f2 20 (by decide) (by decide) (by decide)]
    have hrun := run_T hP mg mn m48 h19 hR m 0 FU FU V T0 S3 (by omega) (by rw [FU_1000]; omega) (by rw [FU_1000]; omega) OT_rf t1 hM4 hB hL
    have e60 : j_X8_town_60 1 S2 = Lp2 b_X8_town_86 FU 0 S3 := by
      unfold j_X8_town_60
      rw [if_neg n10, show f_X8_passesAll (su S2 17 0) 1 1 = _ from a1, Option.bind_some]
    rw [q1, e60]
    rcases hrun with ⟨i, T', S4, i1, i2, i3, o1, o2⟩ | ⟨V', T', S4, i2, i3, ⟨o1, o2⟩, g1, g2, g3, g4⟩
    · have hst : stp c i < n := (mg i i1).1
      obtain ⟨S5, b1, b2⟩ := load_M (S := S4) (b := 1) (by decide)
      have hM5 : MR V S5 := LDD_MR b2 (by rw [o2 20 (by omega)]; exact hK)
      obtain ⟨d1, d2, d3, d4, d5, d6⟩ := b2
      have eM : j_X8_town_105 (nI i) S4 = some ((-2000 : Int32) - nI (stp c i), S5) := by
        unfold j_X8_town_105
        rw [show f_X8_passesAll S4 1 0 = _ from b1, Option.bind_some, inb_t (by omega : i < 48) (by decide), nI_clamp (by omega), d4 15 (by omega), o2 15 (by omega), (hR i i1).2.1]
      have eC : ((if (-1 : Int32) = (-1 : Int32) then Lp4 (b_X0_runOn_24 (Z 5)) FU 0 0 0 T0 else some ((-1000 : Int32) - (-1 : Int32), T0)).bind fun x2 => if x2.1 < 0 then some (x2.1, upA (upA Z 3 x2.2) 5 (su (Z 5) 0 0)) else (f_X6_copyFrom (Z 1) x2.2).bind fun x3 => some (x2.1, upA (upA (upA (upA Z 1 x3) 3 x2.2) 4 (su (Z 4) 0 0)) 5 (su (Z 5) 0 0))) = some ((-2000 : Int32) - nI (stp c i), upA (upA Z 3 T') 5 (su (Z 5) 0 0)) := by
        rw [if_pos rfl, show Lp4 (b_X0_runOn_24 (Z 5)) FU 0 0 0 T0 = _ from i2, Option.bind_some, if_pos (neg2 _ (by omega))]
      have hRel : Rel (upA (upA Z 3 T') 5 (su (Z 5) 0 0)) S5 := Rel_tn hh ⟨by rw [zA _ 1 (by decide) (by decide)]; exact hT, hM5, hB, hL⟩ (zA _ 0 (by decide) (by decide)) (zA _ 2 (by decide) (by decide)) (zA _ 6 (by decide) (by decide)) (zA5 _) (by rw [d3 17 (by omega) (by decide) (by decide), o1 17 (by omega), e17]) (by rw [d4 0 (by omega), o2 0 (by omega), e2' 0 (by decide) (by decide) (by decide) (by decide)]) (by rw [d3 26 (by omega) (by decide) (by decide), o1 26 (by omega), e1' 26 (by decide) (by decide) (by decide) (by decide) (by decide)]) (by rw [d4 25 (by omega), o2 25 (by omega), e2' 25 (by decide) (by decide) (by decide) (by decide)]) (by rw [d3 21 (by omega) (by decide) (by decide), o1 21 (by omega), e1' 21 (by decide) (by decide) (by decide) (by decide) (by decide)]) (fun k hk => by rw [d4 20 (by omega), o2 20 (by omega), e20 k (by omega)]) (Past_fr hp (zA _ 4 (by decide) (by decide)) (by rw [d3 24 (by omega) (by decide) (by decide), o1 24 (by omega), e1' 24 (by decide) (by decide) (by decide) (by decide) (by decide)]) (fun x hx => by rw [d4 20 (by omega), o2 20 (by omega), e20 x (by omega)]))
      exact ⟨_, _, _, eC, (show Lp2 b_X8_town_86 FU 0 S3 = _ from i3).trans eM, hRel⟩
    · obtain ⟨T5, c1, c2⟩ := copy_C (T := Z 1) g1
      obtain ⟨np, p, B, h1, h2, h3, h4, h5, h6⟩ := hp
      have zB : ∀ j, j ≠ 1 → j ≠ 3 → j ≠ 4 → j ≠ 5 → upA (upA (upA (upA Z 1 T5) 3 T') 4 (su (Z 4) 0 0)) 5 (su (Z 5) 0 0) j = Z j := fun j j1 j3 j4 j5 => by rw [upA_n j5, upA_n j4, upA_n j3, upA_n j1]
      have zB4 : upA (upA (upA (upA Z 1 T5) 3 T') 4 (su (Z 4) 0 0)) 5 (su (Z 5) 0 0) 4 = su (Z 4) 0 0 := by rw [upA_n (by decide), upA_s]
      have eC : ((if (-1 : Int32) = (-1 : Int32) then Lp4 (b_X0_runOn_24 (Z 5)) FU 0 0 0 T0 else some ((-1000 : Int32) - (-1 : Int32), T0)).bind fun x2 => if x2.1 < 0 then some (x2.1, upA (upA Z 3 x2.2) 5 (su (Z 5) 0 0)) else (f_X6_copyFrom (Z 1) x2.2).bind fun x3 => some (x2.1, upA (upA (upA (upA Z 1 x3) 3 x2.2) 4 (su (Z 4) 0 0)) 5 (su (Z 5) 0 0))) = some (nI m, upA (upA (upA (upA Z 1 T5) 3 T') 4 (su (Z 4) 0 0)) 5 (su (Z 5) 0 0)) := by
        rw [if_pos rfl, show Lp4 (b_X0_runOn_24 (Z 5)) FU 0 0 0 T0 = _ from i2, Option.bind_some, if_neg (nI_pos (by omega)), c1, Option.bind_some]
      have hRel : Rel (upA (upA (upA (upA Z 1 T5) 3 T') 4 (su (Z 4) 0 0)) 5 (su (Z 5) 0 0)) (su S4 24 0) := Rel_tn hh ⟨by rw [upA_n (by decide), upA_n (by decide), upA_n (by decide), upA_s]; exact c2, MR_su g2 (by decide), g3, g4⟩ (zB 0 (by decide) (by decide) (by decide) (by decide)) (zB 2 (by decide) (by decide) (by decide) (by decide)) (zB 6 (by decide) (by decide) (by decide) (by decide)) (by rw [upA_s, su_s]) (by rw [su_n (by decide), o1 17 (by omega), e17]) (by rw [su_a, o2 0 (by omega), e2' 0 (by decide) (by decide) (by decide) (by decide)]) (by rw [su_n (by decide), o1 26 (by omega), e1' 26 (by decide) (by decide) (by decide) (by decide) (by decide)]) (by rw [su_a, o2 25 (by omega), e2' 25 (by decide) (by decide) (by decide) (by decide)]) (by rw [su_n (by decide), o1 21 (by omega), e1' 21 (by decide) (by decide) (by decide) (by decide) (by decide)]) (fun k hk => by rw [su_a, o2 20 (by omega), e20 k (by omega)]) (Past_0 h2 (by rw [zB4, su_s]) su_s (by rw [zB4, su_n (by decide)]; exact h5))
      exact ⟨_, _, _, eC, (show Lp2 b_X8_town_86 FU 0 S3 = _ from i3), hRel⟩
