/-! PURE: the two new objects -/
def V0 : Nat → Nat → Nat := fun a _ => if a = 3 then 8 else if a = 4 then 11 else 0
theorem V0_WB : WB V0 := ⟨by decide, by decide, by decide, fun s _ => ⟨(by decide : 0 ≤ 5), (by decide : 0 ≤ 9), (by decide : 0 ≤ 9)⟩, fun w h => absurd (show w < 0 from h) (Nat.not_lt_zero w)⟩
theorem V0_WL : WL V0 := ⟨by decide, by decide, by decide, fun l _ => ⟨(by decide : 0 ≤ 9), (by decide : 0 < 2 ^ 0)⟩⟩
theorem Rel_0 {Z : Nat → OS} {S : OS} (hT : TR V0 (Z 1)) (hM : MR V0 S) (hr : ∀ k, k < 7 → (Z 0).2 9 k = S.2 0 k) (z5 : (Z 5).1 0 = 0) (s17 : S.1 17 = 0) (z6 : (Z 6).1 0 = 0) (s26 : S.1 26 = 0) (z0 : (Z 0).1 10 = 0) (s21 : S.1 21 = 0) (z4 : (Z 4).1 0 = 0) (z41 : (Z 4).1 1 = 0) (s24 : S.1 24 = 0) : Rel Z S :=
  ⟨V0, ⟨hT, hM, V0_WB, V0_WL⟩, hr, ⟨0, fun _ => 0, Nat.zero_le _, z5, s17, fun k hk => by omega⟩, ⟨0, fun _ => 0, z6, ⟨Nat.zero_le _, fun k hk => by omega⟩, s26, ⟨Nat.zero_le _, fun k hk => by omega⟩⟩, Or.inl ⟨z0, s21⟩, Past_0 (p := 0) (by decide) z4 s24 z41⟩
