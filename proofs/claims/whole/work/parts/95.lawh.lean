/-! THE G LAYER: a call on the first world, a call on the second -/
theorem putAt_pre : ∀ (A A' pre B : va_W), A.length = A'.length → putAt (pre ++ (A ++ B)) (List.range' pre.length A.length) A' = pre ++ (A' ++ B)
  | [], [], pre, B, _ => rfl
  | [], _ :: _, _, _, h => by simp at h
  | _ :: _, [], _, _, h => by simp at h
  | x :: A, y :: A', pre, B, h => by
    have e : (pre ++ (x :: A ++ B)).set pre.length y = (pre ++ [y]) ++ (A ++ B) := by
      rw [List.set_append_right _ _ (Nat.le_refl _), Nat.sub_self]
      simp
    have ih := putAt_pre A A' (pre ++ [y]) B (by simpa using h)
    rw [List.length_append] at ih
    rw [List.length_cons, List.range'_succ]
    show putAt ((pre ++ (x :: A ++ B)).set pre.length y) (List.range' (pre.length + 1) A.length) A' = _
    rw [e]
    refine ih.trans ?_
    simp
theorem mapAt_pre : ∀ (A pre B : va_W), (List.range' pre.length A.length).map (fun i => (pre ++ (A ++ B))[i]?) = A.map some
  | [], _, _ => rfl
  | x :: A, pre, B => by
    have ih := mapAt_pre A (pre ++ [x]) B
    rw [List.length_append] at ih
    have e : (pre ++ [x]) ++ (A ++ B) = pre ++ (x :: A ++ B) := by simp
    rw [e] at ih
    rw [List.length_cons, List.range'_succ, List.map_cons, List.map_cons]
    refine congr (congrArg List.cons ?_) ih
    rw [List.getElem?_append_right (Nat.le_refl _), Nat.sub_self]
    rfl
set_option maxHeartbeats 4000000 in
set_option maxRecDepth 100000 in
theorem g_call7 {L : LL} {Γ : GC} {k n : Nat} {lv : List (Nat × Value)} {cc : ByteArray} {own : String} {rm : Room} {y : MethodName} {bytes : ByteArray} {maxL np index f1 l1 : Nat} {ret : Option FieldType} {As : List Value} {rv : Option Value} {o : Nat → Nat} {q : Nat → Nat → Nat} {o2 : Nat} {u : Nat → Nat} {Z Z' : Nat → OS} {S : OS} (C : Cx L Γ cc own rm) {pc} (pc' : Nat) (rest st' : List Value) {st : List Value} (ct : Ct L y bytes maxL ret (rmk f1 0 0 l1) 0 0 (.ref (o 0) :: As) (cells7 L o q Z) (Pv rv (cells7 L o q Z'))) (kf : KF y bytes maxL ret np) (kv : KV y) (hl : Cond.methodLink own index y ∈ GW) (hcn : y.cls = RX7) (hlen : As.length = np) (hst : st = As.reverse ++ .ref (o 0) :: rest) (hst' : rv.toList ++ rest = st') (hW : (rest.map fun v => v.category).sum ≤ 8) (hR : f1 + 1 ≤ rm.frames ∧ 8 + (maxL + 11) + l1 ≤ rm.locals) (hf : k ≤ rm.cells ∧ n ≤ rm.slots) (hd : decode cc pc = .ok (.invokevirtual index, 3)) (hp : pc + 3 = pc') (kk : G L Γ k n (cells7 L o q Z' ++ cells8 L o2 u S) pc' lv st') : G L Γ k n (cells7 L o q Z ++ cells8 L o2 u S) pc lv st :=
  g_callVw (w' := cells7 L o q Z' ++ cells8 L o2 u S) C pc' rest st' ct kf kv hl 7 0 hcn rfl rfl (List.range' 0 33) (mapAt_pre (cells7 L o q Z) [] (cells8 L o2 u S)) (by decide +kernel) rfl (putAt_pre (cells7 L o q Z) (cells7 L o q Z') [] (cells8 L o2 u S) rfl) hlen hst hst' hW hR hf hd hp kk
theorem mapAt_pre8 (L : LL) (o : Nat → Nat) (q : Nat → Nat → Nat) (o2 : Nat) (u : Nat → Nat) (Z : Nat → OS) (S : OS) : (List.range' 33 15).map (fun i => (cells7 L o q Z ++ cells8 L o2 u S)[i]?) = (cells8 L o2 u S).map some := by
  have h := mapAt_pre (cells8 L o2 u S) (cells7 L o q Z) []
  rw [List.append_nil] at h
  exact h
theorem putAt_pre8 (L : LL) (o : Nat → Nat) (q : Nat → Nat → Nat) (o2 : Nat) (u : Nat → Nat) (Z : Nat → OS) (S S' : OS) : putAt (cells7 L o q Z ++ cells8 L o2 u S) (List.range' 33 15) (cells8 L o2 u S') = cells7 L o q Z ++ cells8 L o2 u S' := by
  have h := putAt_pre (cells8 L o2 u S) (cells8 L o2 u S') (cells7 L o q Z) [] rfl
  rw [List.append_nil, List.append_nil] at h
  exact h
set_option maxHeartbeats 4000000 in
set_option maxRecDepth 100000 in
theorem g_call8 {L : LL} {Γ : GC} {k n : Nat} {lv : List (Nat × Value)} {cc : ByteArray} {own : String} {rm : Room} {y : MethodName} {bytes : ByteArray} {maxL np index f1 l1 : Nat} {ret : Option FieldType} {As : List Value} {rv : Option Value} {o : Nat → Nat} {q : Nat → Nat → Nat} {o2 : Nat} {u : Nat → Nat} {Z : Nat → OS} {S S' : OS} (C : Cx L Γ cc own rm) {pc} (pc' : Nat) (rest st' : List Value) {st : List Value} (ct : Ct L y bytes maxL ret (rmk f1 0 0 l1) 0 0 (.ref o2 :: As) (cells8 L o2 u S) (Pv rv (cells8 L o2 u S'))) (kf : KF y bytes maxL ret np) (kv : KV y) (hl : Cond.methodLink own index y ∈ GW) (hcn : y.cls = RX8) (hlen : As.length = np) (hst : st = As.reverse ++ .ref o2 :: rest) (hst' : rv.toList ++ rest = st') (hW : (rest.map fun v => v.category).sum ≤ 8) (hR : f1 + 1 ≤ rm.frames ∧ 8 + (maxL + 11) + l1 ≤ rm.locals) (hf : k ≤ rm.cells ∧ n ≤ rm.slots) (hd : decode cc pc = .ok (.invokevirtual index, 3)) (hp : pc + 3 = pc') (kk : G L Γ k n (cells7 L o q Z ++ cells8 L o2 u S') pc' lv st') : G L Γ k n (cells7 L o q Z ++ cells8 L o2 u S) pc lv st :=
  g_callVw (w' := cells7 L o q Z ++ cells8 L o2 u S') C pc' rest st' ct kf kv hl 8 0 hcn rfl rfl (List.range' 33 15) (mapAt_pre8 L o q o2 u Z S) (by decide +kernel) rfl (putAt_pre8 L o q o2 u Z S S') hlen hst hst' hW hR hf hd hp kk
