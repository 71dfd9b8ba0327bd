theorem g_callVs {L : LL} {Γ : GC} {k n : Nat} {w : va_W} {lv : List (Nat × Value)} {cc : ByteArray} {own : String} {rm : Room} {y : MethodName} {bytes : ByteArray} {maxL np index f1 l1 : Nat} {ret : Option FieldType} {As : List Value}  {b : Nat} {Cn : String} {T : u_T} {N : Nat} {fs : List Value} {rv : Option Value} {w' : va_W} (C : Cx L Γ cc own rm) {pc} (pc' : Nat) (rest st' : List Value) {st : List Value} (ct : Ct L y bytes maxL ret (rmk f1 0 0 l1) 0 0 (.ref b :: As) w (Pv rv w')) (kf : KF y bytes maxL ret np) (kv : KV y) (hl : Cond.methodLink own index y ∈ GW) (ci q0 : Nat) (hcn : y.cls = Cn) (hc : vwCl[ci]? = some (Cn, T, N)) (he : w[q0]? = some (b, .inr (ci, fs))) (hfs : w'.map Prod.fst = w.map Prod.fst) (hlen : As.length = np) (hst : st = As.reverse ++ .ref b :: rest) (hst' : rv.toList ++ rest = st') (hW : (rest.map fun v => v.category).sum ≤ 8) (hR : f1 + 1 ≤ rm.frames ∧ 8 + (maxL + 11) + l1 ≤ rm.locals) (hf : k ≤ rm.cells ∧ n ≤ rm.slots) (hd : decode cc pc = .ok (.invokevirtual index, 3)) (hp : pc + 3 = pc') (kk : G L Γ k n w' pc' lv st') : G L Γ k n w pc lv st := by
  obtain ⟨p, e, R, s, m, args, below, meth, c, A, Q, nL⟩ := Γ
  obtain ⟨hx, hb, hml, hown, hts, hNW, hlk, hK, hR0, hA⟩ := C
  intro H locs ls hP hD hS hlv
  subst hp
  subst hst
  subst hst'
  subst hR0
  obtain ⟨-, hy2, hnp, hcode, hini⟩ := kf
  have hFc : ∀ q, va_A w H.size q → A q := fun q h => by
    rcases h with ⟨k0, e0, h⟩ | h
    · exact hD.2 k0 _ h
    · exact hA q (Nat.le_trans hS.1 h)
  have hDc : va_D (fun _ => True) w := hD.weaken (fun _ _ _ _ => trivial)
  have hws : ∀ w ∈ (Cond.code y bytes maxL ret :: GW), ∀ (a' : Array Value) (U : State), s.WarmedH U.vm → w.before a' U = true := gw_pay hts hcode
  have hpar : ∀ sig, parseMethodDescriptor y.desc = some sig → np = sig.parameters.length := fun sig h => by
    rw [h] at hnp
    exact (Option.some.inj hnp).symm
  have hpre : ∀ U : State, U.heap = H → s.WarmedH U.vm → (U.heap.size = H.size ∧ va_P L.2.1 vwCl w U.heap ∧ va_K L.2.1 vwCl [(L.2.2, .int)] U ∧ NW U ∧ va_D (fun _ => True) w) := fun U hU hWm => ⟨by rw [hU], by rw [hU]; exact hP, va_K.moved hWm.alike hK, NW_warm hWm hNW, hDc⟩
  subst hcn
  have cw : CallW R s args own y.cls index y bytes maxL ret (Cond.code y bytes maxL ret :: GW) (rmk f1 0 0 l1) 0 0 np := ⟨⟨rfl, rfl, hR.1, hR.2, hws, List.mem_cons_self, hts _ hcode, hts _ hini, hy2, hpar, hts _ hl⟩, hts _ kv.1, hts _ kv.2⟩
  refine g_run (va_runV (As := As) (rest := rest) (cc := cc) (nL := nL) (Ts := GW) ⟨hx, hb, hml, hown, hts⟩ (ct H.size) cw ⟨ct_blind, va_recv hK hP hc he, fun U hU hWm => ⟨rfl, hpre U hU hWm⟩⟩ rfl hlen hlv.1 rfl (lv_roomS hW) hd hf) hS hFc (fun rv w1 H1 locs1 hpw hP1 hD1 hk1 hS1 => ?_)
  obtain ⟨rfl, rfl⟩ := hpw
  have hat : ∀ (j : Nat) (q : Nat × va_E), w1[j]? = some q → ∃ q0, w[j]? = some q0 ∧ q0.1 = q.1 := fun j q hq => by
    have h5 : (w1.map Prod.fst)[j]? = (w.map Prod.fst)[j]? := by rw [hfs]
    rw [List.getElem?_map, List.getElem?_map, hq] at h5
    cases hw : w[j]? with
    | none => rw [hw] at h5; cases h5
    | some q0 => rw [hw] at h5; exact ⟨q0, rfl, (Option.some.inj h5).symm⟩
  refine kk H1 locs1 ls hP1 ⟨fun i j p q hp hq hpq => ?_, fun j q hq => ?_⟩ hS1 hlv
  · obtain ⟨p0, h1, h2⟩ := hat i p hp
    obtain ⟨q0, h3, h4⟩ := hat j q hq
    exact hD.1 i j p0 q0 h1 h3 (by rw [h2, h4]; exact hpq)
  · obtain ⟨q0, h3, h4⟩ := hat j q hq
    rw [← h4]
    exact hD.2 j q0 h3
