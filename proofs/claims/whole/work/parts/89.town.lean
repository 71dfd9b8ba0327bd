/-! PURE: the town is read, both sides -/
theorem OT_tr {A B C : OS} (h1 : OT A B) (h2 : OT B C) : OT A C := ⟨fun j hj => (h2.1 j hj).trans (h1.1 j hj), fun j hj => (h2.2 j hj).trans (h1.2 j hj)⟩
theorem run_T {c : Nat → Nat} {n m : Nat} {P S1 : OS} (hP : LT c n P) (hg : goods c n m) (hm : stp c m = n) (m48 : m ≤ 48) (h19 : S1.1 19 = nI m) (hR : PRC c m S1) : ∀ (k j f1 f2 : Nat) (V : Nat → Nat → Nat) (T S : OS), j + k = m → k < f1 → k < f2 → OT S1 S → TR V T → MR V S → WB V → WL V →
    (∃ i T' S', i < m ∧ Lp4 (b_X0_runOn_24 P) f1 (nI j) (nI (stp c j)) (nI j) T = some ((-2000 : Int32) - nI (stp c i), T') ∧ Lp2 b_X8_town_86 f2 (nI j) S = j_X8_town_105 (nI i) S' ∧ OT S1 S') ∨ (∃ V' T' S', Lp4 (b_X0_runOn_24 P) f1 (nI j) (nI (stp c j)) (nI j) T = some (nI m, T') ∧ Lp2 b_X8_town_86 f2 (nI j) S = some (nI m, su S' 24 0) ∧ OT S1 S' ∧ TR V' T' ∧ MR V' S' ∧ WB V' ∧ WL V')
  | k, j, f1, f2, V, T, S, hk, hf1, hf2, hO, hT, hM, hB, hL => by
    obtain ⟨h0, h96, hc⟩ := id hP
    obtain ⟨f1, rfl⟩ : ∃ f, f1 = f + 1 := ⟨f1 - 1, by omega⟩
    obtain ⟨f2, rfl⟩ : ∃ f, f2 = f + 1 := ⟨f2 - 1, by omega⟩
    have ih := fun (k' : Nat) (_ : k' < k) => run_T hP hg hm m48 h19 hR k' (j + 1) f1 f2
    rw [Lp4, Lp2]
    generalize Lp4 (b_X0_runOn_24 P) f1 = G1 at ih ⊢
    generalize Lp2 b_X8_town_86 f2 = G2 at ih ⊢
    unfold b_X0_runOn_24 b_X8_town_86
    rw [if_neg (show ¬ (96 : Int32) ≤ nI j from nI_ge (b := 96) (by omega) (by decide)), h0, show S.1 19 = nI m from (hO.1 19 (by omega)).trans h19]
    by_cases e : j = m
    · subst e
      right
      rw [if_pos (nI_le (by omega) (by omega)), if_pos (nI_le (Nat.le_refl _) (by omega))]
      exact ⟨V, T, S, rfl, rfl, hO, hT, hM, hB, hL⟩
    · have hjm : j < m := by omega
      obtain ⟨g1, g2⟩ := hg j hjm
      obtain ⟨r1, r2, r3⟩ := hR j hjm
      have hst := step_T (i := j) hP g2 (by omega) (by rw [hO.2 14 (by omega)]; exact r1) (fun a ha => by rw [hO.2 16 (by omega)]; exact r3 a ha) hT hM hB hL
      rw [if_neg (nI_ge g1 (by omega)), if_neg (nI_ge hjm (by omega))]
      rcases hst with ⟨x, T', S', a1, a2, a3, a4⟩ | ⟨r, V', T', S', a1, a2, a3, a4, a5, a6, a7, a8⟩
      · left
        rw [a1, Option.bind_some, if_neg a2, a3, Option.bind_some, if_pos rfl]
        exact ⟨j, T', S', hjm, rfl, rfl, OT_tr hO a4⟩
      · obtain ⟨d, d1, d2, d3, d4, -⟩ := fS_ok g2
        obtain ⟨q1, q2⟩ := hc (stp c j) g1
        rw [a2, Option.bind_some, if_pos (nI_pos' a1), at_in (by omega : stp c j < 96) (by decide), Option.bind_some, q1, dgL_C _ q2, d1, Option.bind_some, a3, Option.bind_some, if_neg n10]
        show (∃ i T'' S'', i < m ∧ G1 (nI j + 1) (nI (stp c j) + (nI d + 2)) (nI j + 1) T' = _ ∧ G2 (nI j + 1) S' = _ ∧ OT S1 S'') ∨ (∃ V' T'' S'', G1 (nI j + 1) (nI (stp c j) + (nI d + 2)) (nI j + 1) T' = _ ∧ G2 (nI j + 1) S' = _ ∧ _)
        rw [show nI j + (1 : Int32) = nI (j + 1) from nI_1 j, show nI (stp c j) + (nI d + (2 : Int32)) = nI (stp c (j + 1)) by rw [show (2 : Int32) = nI 2 from rfl, nI_add, nI_add, stp, d2, Nat.add_assoc]]
        exact ih (k - 1) (by omega) V' T' S' (by omega) (by omega) (by omega) (OT_tr hO a4) a5 a6 a7 a8
