/-! THE G LAYER: what makes -/
def In (Γ : GC) : Prop := match Γ with
  | (_, _, _, _, _, _, _, meth, _, _, _, _) => meth.name = "<init>"
theorem g_putF {L : LL} {Γ : GC} {k n : Nat} {w : va_W} {lv : List (Nat × Value)} {st : List Value} {cc : ByteArray} {own : String} {rm : Room} (C : Cx L Γ cc own rm) (I : In Γ) {pc} (pc' : Nat) (ci q0 k0 : Nat) {Cn : String} {T : u_T} {N a index : Nat} {fs : List Value} {v : Value} {w' : va_W} (hin : ∀ w ∈ u_ws Cn T N, w ∈ GW) (ty0 : Nat → FieldType) (hty : ∀ k, k < N → parseFieldDescriptor (T k).2.2.1 = some (ty0 k)) (hnm : ∀ a, a < N → ∀ b, b < N → a ≠ b → (T a).2.1 ≠ (T b).2.1) (hc : vwCl[ci]? = some (Cn, T, N)) (he : w[q0]? = some (a, .inr (ci, fs))) (hk : k0 < N) (hlink : Cond.fieldLink own index (T k0).1 (T k0).2.1 (T k0).2.2.1 ∈ GW) (hfin : (T k0).2.2.2 = true) (hdecl : (T k0).1 = own) (hn : narrow (ty0 k0) v = v) (hfit : fits (ty0 k0) v = true) (hlen : k0 < fs.length) (hd : decode cc pc = .ok (.putfield index, 3)) (hp : pc + 3 = pc') (hw : w.set q0 (a, .inr (ci, fs.set k0 v)) = w') (kk : G L Γ k n w' pc' lv st) : G L Γ k n w pc lv (v :: .ref a :: st) := by
  obtain ⟨p, e, R, s, m, args, below, meth, c, A, Q, nL⟩ := Γ
  obtain ⟨hx, hb, hml, hown, hts, hNW, hlk, hK, hR, hA⟩ := C
  intro H locs ls hP hD hS hl
  subst hp
  subst hw
  exact va_putF hx hb hts hin ty0 hty hnm hown hK hP hD hS q0 he hc k0 hk (hts _ hlink) (fun _ h => h) hfin I hdecl (hty k0 hk) hn hfit hlen hd (fun H1 locs1 hP1 hD1 hS1 => kk H1 locs1 ls hP1 hD1 hS1 hl)
theorem g_newarr {L : LL} {Γ : GC} {k n : Nat} {w : va_W} {lv : List (Nat × Value)} {st : List Value} {cc : ByteArray} {own : String} {rm : Room} (C : Cx L Γ cc own rm) {pc} (pc' : Nat) {x : Int32} {N : Nat} (harr : Cond.arrayClass .int ∈ GW) (hx0 : ¬ x < 0) (hN : x.toNatClampNeg = N) (hN2 : N ≤ 1000) (hr : k + 1 ≤ rm.cells ∧ n + N ≤ rm.slots) (hd : decode cc pc = .ok (.newarray .int, 2)) (hp : pc + 2 = pc') (kk : ∀ q : Nat, G L Γ (k + 1) (n + N) (w ++ [(q, .inl (L.2.2, N, .inl (fun _ => 0)))]) pc' lv (.ref q :: st)) : G L Γ k n w pc lv (.int x :: st) := by
  obtain ⟨p, e, R, s, m, args, below, meth, c, A, Q, nL⟩ := Γ
  obtain ⟨hx, hb, hml, hown, hts, hNW, hlk, hK, hR, hA⟩ := C
  intro H locs ls hP hD hS hl
  subst hp
  subst hR
  refine va_newa (atype := .int) (ty := .int) hx hb (hts _ harr) rfl hK hP hD hS hA (a0 := (N, .inl (fun _ => 0))) (fun cA => rfl) hx0 hN (by show N * 4 ≤ _; omega) hr.1 hr.2 hd (fun q cA H1 hK1 hP1 hD1 hS1 => ?_)
  have e1 : s.vm.findClass "[I" = some L.2.2 := va_nm_int (hK.2 0 _ rfl).2
  have e2 : s.vm.findClass "[I" = some cA := va_nm_int (hK1.2 1 _ rfl).2
  have e3 : cA = L.2.2 := by rw [e1] at e2; cases e2; rfl
  subst e3
  exact kk q H1 locs ls hP1 hD1 hS1 hl
theorem g_objInit {L : LL} {Γ : GC} {k n : Nat} {w : va_W} {lv : List (Nat × Value)} {st : List Value} {cc : ByteArray} {own : String} {rm : Room} (C : Cx L Γ cc own rm) {pc} (pc' : Nat) {index a : Nat} (h1 : Cond.methodLink own index Lib.objectInit ∈ GW) (h2 : Cond.instanceMethod Lib.objectInit ∈ GW) (h3 : Cond.code Lib.objectInit ⟨#[0xb1]⟩ 1 none ∈ GW) (hr : 1 ≤ rm.frames) (hlo : (st.map fun v => v.category).sum + 12 ≤ rm.locals) (hd : decode cc pc = .ok (.invokespecial index, 3)) (hp : pc + 3 = pc') (kk : G L Γ k n w pc' lv st) : G L Γ k n w pc lv (.ref a :: st) := by
  obtain ⟨p, e, R, s, m, args, below, meth, c, A, Q, nL⟩ := Γ
  obtain ⟨hx, hb, hml, hown, hts, hNW, hlk, hK, hR, hA⟩ := C
  intro H locs ls hP hD hS hl
  subst hp
  subst hR
  refine W.objInit hx hb hown (hts _ h1) (hts _ h2) (hts _ h3) rfl (by rw [hml]; exact hl.1) rfl hd hr (by show 2 * 0 + _ + 12 ≤ _; omega) ?_
  exact kk H locs ls hP hD hS hl
theorem g_new {L : LL} {Γ : GC} {k n : Nat} {w : va_W} {lv : List (Nat × Value)} {st : List Value} {cc : ByteArray} {own : String} {rm : Room} (C : Cx L Γ cc own rm) {pc} (pc' : Nat) (ci : Nat) {Cn : String} {T : u_T} {N index : Nat} (fs : List Value) (hin : ∀ w ∈ u_ws Cn T N, w ∈ GW) (ty0 : Nat → FieldType) (hty : ∀ k, k < N → parseFieldDescriptor (T k).2.2.1 = some (ty0 k)) (hc : vwCl[ci]? = some (Cn, T, N)) (hcl : Cond.classLink own index Cn ∈ GW) (hinst : Cond.instantiable Cn N ∈ GW) (hini : Cond.initialized Cn ∈ GW) (hfs : ∀ j, j < N → defaultValue (ty0 j) = vp_V fs j) (hr : k + 1 ≤ rm.cells ∧ n + N ≤ rm.slots) (hd : decode cc pc = .ok (.new index, 3)) (hp : pc + 3 = pc') (kk : ∀ q : Nat, G L Γ (k + 1) (n + N) (w ++ [(q, .inr (ci, fs))]) pc' lv (.ref q :: st)) : G L Γ k n w pc lv st := by
  obtain ⟨p, e, R, s, m, args, below, meth, c, A, Q, nL⟩ := Γ
  obtain ⟨hx, hb, hml, hown, hts, hNW, hlk, hK, hR, hA⟩ := C
  intro H locs ls hP hD hS hl
  subst hp
  subst hR
  exact va_new hx hb hts hin ty0 hty hown (hts _ hcl) (hts _ hinst) (hts _ hini) hK hP hD hS hA hc hfs hr.1 hr.2 hd (fun q H1 hP1 hD1 hS1 => kk q H1 locs ls hP1 hD1 hS1 hl)
