def remI (x y : Int32) : Int32 := x - x / y * y
def remL (x y : Int64) : Int64 := x - x / y * y
def ushr (x y : Int32) : Int32 := (x.toUInt32 >>> (y.toUInt32 &&& Int32.toUInt32 31)).toInt32
def maxI (x y : Int32) : Int32 := if x < y then y else x
def minI (x y : Int32) : Int32 := if y < x then y else x
def absI (x : Int32) : Int32 := if 0 ≤ x then x else 0 - x
/-! THE G LAYER: a judgement G over an abstract world w, locals lv and stack st; Cx: what a method's body knows; Rt: what its end must give; Ct: a contract. Own rows over the kit's. -/
abbrev LL : Type := Launch × va_G × ClassId
abbrev GC : Type := Program × Env × Room × State × MethodId × Array Value × List Frame × Method × Code × (Nat → Prop) × (State → Prop) × Nat
def NW (U : State) : Prop := ∀ q ∈ nwL, va_Nw (.methodLinkNest q.1 q.2.1 q.2.2.1 q.2.2.2) U
theorem NW_warm {s U : State} (hW : s.WarmedH U.vm) (h : NW s) : NW U := fun q hq => va_Nw.warmM hW (h q hq)
def G (L : LL) (Γ : GC) (k n : Nat) (w : va_W) (pc : Nat) (lv : List (Nat × Value)) (st : List Value) : Prop :=
  match Γ with
  | (p, e, R, s, m, args, below, meth, c, A, Q, nL) => ∀ (H : Heap) (locs : List Loc) (ls : Array Slot), va_P L.2.1 vwCl w H → va_D A w → va_S A s.heap H locs → lv_has ls nL lv → W p L.1 e R s m args below meth c H locs k n Q (F0 m pc ls st)
def Cx (L : LL) (Γ : GC) (cc : ByteArray) (own : String) (rm : Room) : Prop :=
  match Γ with
  | (p, _, R, s, m, args, _, meth, c, A, _, nL) => p.tables.exec = Jvm.exec ∧ c.code = cc ∧ c.maxLocals = nL ∧ s.vm.findClass own = some m.cls ∧ (∀ w ∈ GW, w.before args s = true) ∧ NW s ∧ meth.locks = false ∧ va_K L.2.1 vwCl [(L.2.2, .int)] s ∧ R = rm ∧ (∀ q, s.heap.size ≤ q → A q)
def QC (L : LL) (w0 : va_W) (sz : Nat) (Pw : Option Value → va_W → Prop) : Array Value → State → Outcome → State → Prop := fun _ st o t => (∃ rv w', Pw rv w' ∧ o = .returned rv ∧ va_P L.2.1 vwCl w' t.heap ∧ va_D (va_A w0 sz) w') ∧ va_F (va_A w0 sz) st t
def Rt (L : LL) (Γ : GC) (ret : Option FieldType) (k n : Nat) (Pw : Option Value → va_W → Prop) : Prop :=
  match Γ with
  | (_, _, _, s, _, args, below, meth, _, A, Q, _) => meth.sig.returnType = ret ∧ ∃ w0, A = va_A w0 s.heap.size ∧ Q = MQ below (QC L w0 s.heap.size Pw) args s k n A
def Ct (L : LL) (y : MethodName) (b : ByteArray) (mL : Nat) (ret : Option FieldType) (rm : Room) (k n : Nat) (av : List Value) (w : va_W) (Pw : Option Value → va_W → Prop) : Prop := ∀ sz : Nat, Met L.1 y (Cond.code y b mL ret :: GW) rm (va_Pc av (fun U => U.heap.size = sz ∧ va_P L.2.1 vwCl w U.heap ∧ va_K L.2.1 vwCl [(L.2.2, .int)] U ∧ NW U ∧ va_D (fun _ => True) w)) (QC L w sz Pw) k n (va_A w sz)
abbrev Pv (rv : Option Value) (w : va_W) : Option Value → va_W → Prop := fun r x => r = rv ∧ x = w
def KF (y : MethodName) (bytes : ByteArray) (maxL : Nat) (ret : Option FieldType) (np : Nat) : Prop := plainName y.cls = true ∧ (y.cls ≠ "java/lang/invoke/MethodHandle" ∧ y.cls ≠ "java/lang/invoke/VarHandle") ∧ (parseMethodDescriptor y.desc).map (fun d => d.parameters.length) = some np ∧ Cond.code y bytes maxL ret ∈ GW ∧ Cond.initialized y.cls ∈ GW
def KV (y : MethodName) : Prop := Cond.instanceMethod y ∈ GW ∧ Cond.selects y.cls y y ∈ GW
def rmk (f k n l : Nat) : Room := { frames := f, cells := k, slots := n, locals := l }
def gNL (Γ : GC) : Nat := match Γ with
  | (_, _, _, _, _, _, _, _, _, _, _, nL) => nL
theorem g_enter {L : LL} {y : MethodName} {f k n lo : Nat} {cc : ByteArray} {maxL np : Nat} {ret : Option FieldType} {own : String} {av : List Value} {w : va_W} {Pw : Option Value → va_W → Prop} {lv : List (Nat × Value)} (kf : KF y cc maxL ret np) (hown : y.cls = own) (hlv : lv_args 0 av = lv) (hlen : (lg_sl av).length ≤ maxL) (body : ∀ Γ : GC, Cx L Γ cc own (rmk f k n lo) → Rt L Γ ret k n Pw → gNL Γ = maxL → G L Γ 0 0 w 0 lv []) : Ct L y cc maxL ret (rmk f k n lo) k n av w Pw := by
  intro sz
  obtain ⟨hy, -, -, -⟩ := kf
  refine Met.ofW hy rfl ?_
  intro p e s m args below meth c s₁ B hml hv
  obtain ⟨rfl, hsz, hP, hK, hN, hD0⟩ := hv
  subst hsz
  subst hown
  subst hlv
  rw [lg_entry_eq]
  have hts := atoms_spec (ws := Cond.code y cc maxL ret :: GW) B.pre
  exact body (p, e, rmk f k n lo, s, m, av.toArray, below, meth, c, va_A w s.heap.size, _, maxL) ⟨B.exec, B.bytes, hml, findClass_of_methodNamed B.named, fun w h => hts w (List.mem_cons_of_mem _ h), hN, B.notSynchronized, hK, rfl, fun q h => Or.inr h⟩ ⟨B.returns, w, rfl, rfl⟩ rfl s.heap [] _ hP hD0.self va_S.rf (lv_entry av hlen)
theorem g_w {L : LL} {Γ : GC} {k n : Nat} {w w' : va_W} {pc : Nat} {lv : List (Nat × Value)} {st : List Value} (h : w = w') (kk : G L Γ k n w' pc lv st) : G L Γ k n w pc lv st := h ▸ kk
theorem g_lv {L : LL} {Γ : GC} {k n : Nat} {w : va_W} {pc : Nat} {lv lv' : List (Nat × Value)} {st : List Value} (ks : List Nat) (h : lv_pick lv ks = lv') (kk : G L Γ k n w pc lv' st) : G L Γ k n w pc lv st := by
  obtain ⟨p, e, R, s, m, args, below, meth, c, A, Q, nL⟩ := Γ
  intro H locs ls hP hD hS hl
  exact kk H locs ls hP hD hS (lv_sub hl ks h)

theorem g_iconst {L : LL} {Γ : GC} {k n : Nat} {w : va_W} {lv : List (Nat × Value)} {st : List Value} {cc : ByteArray} {own : String} {rm : Room} (C : Cx L Γ cc own rm) {pc} (pc' : Nat) {z : Int} (v : Int32) (hd : decode cc pc = .ok (.iconst z, 1)) (hp : pc + 1 = pc') (hv : Int32.ofInt z = v) (kk : G L Γ k n w pc' lv (.int v :: st)) : G L Γ k n w pc lv (st) := by
  obtain ⟨p, e, R, s, m, args, below, meth, c, A, Q, nL⟩ := Γ
  obtain ⟨hx, hb, hml, hown, hts, hNW, hlk, hK, hR, hA⟩ := C
  intro H locs ls hP hD hS hl
  subst hp
  exact lv_iconst hx hb hd hv (kk H locs ls hP hD hS hl)
theorem g_bipush {L : LL} {Γ : GC} {k n : Nat} {w : va_W} {lv : List (Nat × Value)} {st : List Value} {cc : ByteArray} {own : String} {rm : Room} (C : Cx L Γ cc own rm) {pc} (pc' : Nat) {z : Int} (v : Int32) (hd : decode cc pc = .ok (.bipush z, 2)) (hp : pc + 2 = pc') (hv : (Int8.ofInt z).toInt32 = v) (kk : G L Γ k n w pc' lv (.int v :: st)) : G L Γ k n w pc lv (st) := by
  obtain ⟨p, e, R, s, m, args, below, meth, c, A, Q, nL⟩ := Γ
  obtain ⟨hx, hb, hml, hown, hts, hNW, hlk, hK, hR, hA⟩ := C
  intro H locs ls hP hD hS hl
  subst hp
  exact lv_bipush hx hb hd hv (kk H locs ls hP hD hS hl)
theorem g_sipush {L : LL} {Γ : GC} {k n : Nat} {w : va_W} {lv : List (Nat × Value)} {st : List Value} {cc : ByteArray} {own : String} {rm : Room} (C : Cx L Γ cc own rm) {pc} (pc' : Nat) {z : Int} (v : Int32) (hd : decode cc pc = .ok (.sipush z, 3)) (hp : pc + 3 = pc') (hv : (Int16.ofInt z).toInt32 = v) (kk : G L Γ k n w pc' lv (.int v :: st)) : G L Γ k n w pc lv (st) := by
  obtain ⟨p, e, R, s, m, args, below, meth, c, A, Q, nL⟩ := Γ
  obtain ⟨hx, hb, hml, hown, hts, hNW, hlk, hK, hR, hA⟩ := C
  intro H locs ls hP hD hS hl
  subst hp
  exact lv_sipush hx hb hd hv (kk H locs ls hP hD hS hl)
theorem g_lconst {L : LL} {Γ : GC} {k n : Nat} {w : va_W} {lv : List (Nat × Value)} {st : List Value} {cc : ByteArray} {own : String} {rm : Room} (C : Cx L Γ cc own rm) {pc} (pc' : Nat) {z : Fin 2} (v : Int64) (hd : decode cc pc = .ok (.lconst z, 1)) (hp : pc + 1 = pc') (hv : Int64.ofNat (z : Nat) = v) (kk : G L Γ k n w pc' lv (.long v :: st)) : G L Γ k n w pc lv (st) := by
  obtain ⟨p, e, R, s, m, args, below, meth, c, A, Q, nL⟩ := Γ
  obtain ⟨hx, hb, hml, hown, hts, hNW, hlk, hK, hR, hA⟩ := C
  intro H locs ls hP hD hS hl
  subst hp
  exact lv_lconst hx hb hd hv (kk H locs ls hP hD hS hl)
theorem g_ldc {L : LL} {Γ : GC} {k n : Nat} {w : va_W} {lv : List (Nat × Value)} {st : List Value} {cc : ByteArray} {own : String} {rm : Room} (C : Cx L Γ cc own rm) {pc} (pc' : Nat) {index : Nat} {v : Int32} (hd : decode cc pc = .ok (.ldc index, 2)) (hp : pc + 2 = pc') (hc : Cond.constant own index v ∈ GW) (kk : G L Γ k n w pc' lv (.int v :: st)) : G L Γ k n w pc lv (st) := by
  obtain ⟨p, e, R, s, m, args, below, meth, c, A, Q, nL⟩ := Γ
  obtain ⟨hx, hb, hml, hown, hts, hNW, hlk, hK, hR, hA⟩ := C
  intro H locs ls hP hD hS hl
  subst hp
  exact lv_ldc hx hb hown (hts _ hc) hd (kk H locs ls hP hD hS hl)
theorem g_ldcw {L : LL} {Γ : GC} {k n : Nat} {w : va_W} {lv : List (Nat × Value)} {st : List Value} {cc : ByteArray} {own : String} {rm : Room} (C : Cx L Γ cc own rm) {pc} (pc' : Nat) {index : Nat} {v : Int32} (hd : decode cc pc = .ok (.ldc_w index, 3)) (hp : pc + 3 = pc') (hc : Cond.constant own index v ∈ GW) (kk : G L Γ k n w pc' lv (.int v :: st)) : G L Γ k n w pc lv (st) := by
  obtain ⟨p, e, R, s, m, args, below, meth, c, A, Q, nL⟩ := Γ
  obtain ⟨hx, hb, hml, hown, hts, hNW, hlk, hK, hR, hA⟩ := C
  intro H locs ls hP hD hS hl
  subst hp
  exact lv_ldcw hx hb hown (hts _ hc) hd (kk H locs ls hP hD hS hl)
theorem g_ldc2 {L : LL} {Γ : GC} {k n : Nat} {w : va_W} {lv : List (Nat × Value)} {st : List Value} {cc : ByteArray} {own : String} {rm : Room} (C : Cx L Γ cc own rm) {pc} (pc' : Nat) {index : Nat} {v : Int64} (hd : decode cc pc = .ok (.ldc2_w index, 3)) (hp : pc + 3 = pc') (hc : Cond.constantLong own index v ∈ GW) (kk : G L Γ k n w pc' lv (.long v :: st)) : G L Γ k n w pc lv (st) := by
  obtain ⟨p, e, R, s, m, args, below, meth, c, A, Q, nL⟩ := Γ
  obtain ⟨hx, hb, hml, hown, hts, hNW, hlk, hK, hR, hA⟩ := C
  intro H locs ls hP hD hS hl
  subst hp
  exact lv_ldc2 hx hb hown (hts _ hc) hd (kk H locs ls hP hD hS hl)
theorem g_iload_n {L : LL} {Γ : GC} {k n : Nat} {w : va_W} {lv : List (Nat × Value)} {st : List Value} {cc : ByteArray} {own : String} {rm : Room} (C : Cx L Γ cc own rm) {pc} (pc' : Nat) {i : Fin 4} (q : Nat) {x : Int32} (hd : decode cc pc = .ok (.iload_n i, 1)) (hp : pc + 1 = pc') (hq : lv[q]? = some ((i : Nat), .int x)) (kk : G L Γ k n w pc' lv (.int x :: st)) : G L Γ k n w pc lv (st) := by
  obtain ⟨p, e, R, s, m, args, below, meth, c, A, Q, nL⟩ := Γ
  obtain ⟨hx, hb, hml, hown, hts, hNW, hlk, hK, hR, hA⟩ := C
  intro H locs ls hP hD hS hl
  subst hp
  exact lv_iload_n hx hb hd rfl (lv_at hl q hq) (kk H locs ls hP hD hS hl)
theorem g_iload {L : LL} {Γ : GC} {k n : Nat} {w : va_W} {lv : List (Nat × Value)} {st : List Value} {cc : ByteArray} {own : String} {rm : Room} (C : Cx L Γ cc own rm) {pc} (pc' : Nat) {i : Nat} (q : Nat) {x : Int32} (hd : decode cc pc = .ok (.iload i, 2)) (hp : pc + 2 = pc') (hq : lv[q]? = some (i, .int x)) (kk : G L Γ k n w pc' lv (.int x :: st)) : G L Γ k n w pc lv (st) := by
  obtain ⟨p, e, R, s, m, args, below, meth, c, A, Q, nL⟩ := Γ
  obtain ⟨hx, hb, hml, hown, hts, hNW, hlk, hK, hR, hA⟩ := C
  intro H locs ls hP hD hS hl
  subst hp
  exact lv_iload hx hb hd (lv_at hl q hq) (kk H locs ls hP hD hS hl)
theorem g_lload_n {L : LL} {Γ : GC} {k n : Nat} {w : va_W} {lv : List (Nat × Value)} {st : List Value} {cc : ByteArray} {own : String} {rm : Room} (C : Cx L Γ cc own rm) {pc} (pc' : Nat) {i : Fin 4} (q : Nat) {x : Int64} (hd : decode cc pc = .ok (.lload_n i, 1)) (hp : pc + 1 = pc') (hq : lv[q]? = some ((i : Nat), .long x)) (kk : G L Γ k n w pc' lv (.long x :: st)) : G L Γ k n w pc lv (st) := by
  obtain ⟨p, e, R, s, m, args, below, meth, c, A, Q, nL⟩ := Γ
  obtain ⟨hx, hb, hml, hown, hts, hNW, hlk, hK, hR, hA⟩ := C
  intro H locs ls hP hD hS hl
  subst hp
  exact lv_lload_n hx hb hd rfl (lv_at hl q hq) (kk H locs ls hP hD hS hl)
theorem g_lload {L : LL} {Γ : GC} {k n : Nat} {w : va_W} {lv : List (Nat × Value)} {st : List Value} {cc : ByteArray} {own : String} {rm : Room} (C : Cx L Γ cc own rm) {pc} (pc' : Nat) {i : Nat} (q : Nat) {x : Int64} (hd : decode cc pc = .ok (.lload i, 2)) (hp : pc + 2 = pc') (hq : lv[q]? = some (i, .long x)) (kk : G L Γ k n w pc' lv (.long x :: st)) : G L Γ k n w pc lv (st) := by
  obtain ⟨p, e, R, s, m, args, below, meth, c, A, Q, nL⟩ := Γ
  obtain ⟨hx, hb, hml, hown, hts, hNW, hlk, hK, hR, hA⟩ := C
  intro H locs ls hP hD hS hl
  subst hp
  exact lv_lload hx hb hd (lv_at hl q hq) (kk H locs ls hP hD hS hl)
theorem g_aload_n {L : LL} {Γ : GC} {k n : Nat} {w : va_W} {lv : List (Nat × Value)} {st : List Value} {cc : ByteArray} {own : String} {rm : Room} (C : Cx L Γ cc own rm) {pc} (pc' : Nat) {i : Fin 4} (q : Nat) {x : Nat} (hd : decode cc pc = .ok (.aload_n i, 1)) (hp : pc + 1 = pc') (hq : lv[q]? = some ((i : Nat), .ref x)) (kk : G L Γ k n w pc' lv (.ref x :: st)) : G L Γ k n w pc lv (st) := by
  obtain ⟨p, e, R, s, m, args, below, meth, c, A, Q, nL⟩ := Γ
  obtain ⟨hx, hb, hml, hown, hts, hNW, hlk, hK, hR, hA⟩ := C
  intro H locs ls hP hD hS hl
  subst hp
  exact lv_aload_n hx hb hd rfl (lv_at hl q hq) (kk H locs ls hP hD hS hl)
theorem g_aload {L : LL} {Γ : GC} {k n : Nat} {w : va_W} {lv : List (Nat × Value)} {st : List Value} {cc : ByteArray} {own : String} {rm : Room} (C : Cx L Γ cc own rm) {pc} (pc' : Nat) {i : Nat} (q : Nat) {x : Nat} (hd : decode cc pc = .ok (.aload i, 2)) (hp : pc + 2 = pc') (hq : lv[q]? = some (i, .ref x)) (kk : G L Γ k n w pc' lv (.ref x :: st)) : G L Γ k n w pc lv (st) := by
  obtain ⟨p, e, R, s, m, args, below, meth, c, A, Q, nL⟩ := Γ
  obtain ⟨hx, hb, hml, hown, hts, hNW, hlk, hK, hR, hA⟩ := C
  intro H locs ls hP hD hS hl
  subst hp
  exact lv_aload hx hb hd (lv_at hl q hq) (kk H locs ls hP hD hS hl)
theorem g_istore_n {L : LL} {Γ : GC} {k n : Nat} {w : va_W} {lv : List (Nat × Value)} {st : List Value} {cc : ByteArray} {own : String} {rm : Room} (C : Cx L Γ cc own rm) {pc} (pc' : Nat) {j : Fin 4} (i : Nat) (lv' : List (Nat × Value)) {x : Int32} (hd : decode cc pc = .ok (.istore_n j, 1)) (hp : pc + 1 = pc') (hji : (j : Nat) = i) (N : Nat) (hN : gNL Γ = N) (hle : i < N) (hlv : (i, Value.int x) :: lv.filter (fun q => !(q.1 == i) && !(q.1 + 1 == i && q.2.category == 2)) = lv') (kk : G L Γ k n w pc' lv' st) : G L Γ k n w pc lv (.int x :: st) := by
  obtain ⟨p, e, R, s, m, args, below, meth, c, A, Q, nL⟩ := Γ
  obtain ⟨hx, hb, hml, hown, hts, hNW, hlk, hK, hR, hA⟩ := C
  intro H locs ls hP hD hS hl
  subst hp
  change nL = N at hN
  subst hN
  exact lv_istore_n hx hb hd hji hl hle hlv (fun ls' hl' => kk H locs ls' hP hD hS hl')
theorem g_istore {L : LL} {Γ : GC} {k n : Nat} {w : va_W} {lv : List (Nat × Value)} {st : List Value} {cc : ByteArray} {own : String} {rm : Room} (C : Cx L Γ cc own rm) {pc} (pc' : Nat) (i : Nat) (lv' : List (Nat × Value)) {x : Int32} (hd : decode cc pc = .ok (.istore i, 2)) (hp : pc + 2 = pc') (N : Nat) (hN : gNL Γ = N) (hle : i < N) (hlv : (i, Value.int x) :: lv.filter (fun q => !(q.1 == i) && !(q.1 + 1 == i && q.2.category == 2)) = lv') (kk : G L Γ k n w pc' lv' st) : G L Γ k n w pc lv (.int x :: st) := by
  obtain ⟨p, e, R, s, m, args, below, meth, c, A, Q, nL⟩ := Γ
  obtain ⟨hx, hb, hml, hown, hts, hNW, hlk, hK, hR, hA⟩ := C
  intro H locs ls hP hD hS hl
  subst hp
  change nL = N at hN
  subst hN
  exact lv_istore hx hb hd hl hle hlv (fun ls' hl' => kk H locs ls' hP hD hS hl')
theorem g_lstore_n {L : LL} {Γ : GC} {k n : Nat} {w : va_W} {lv : List (Nat × Value)} {st : List Value} {cc : ByteArray} {own : String} {rm : Room} (C : Cx L Γ cc own rm) {pc} (pc' : Nat) {j : Fin 4} (i : Nat) (lv' : List (Nat × Value)) {x : Int64} (hd : decode cc pc = .ok (.lstore_n j, 1)) (hp : pc + 1 = pc') (hji : (j : Nat) = i) (N : Nat) (hN : gNL Γ = N) (hle : i + 1 < N) (hlv : (i, Value.long x) :: lv.filter (fun q => !(q.1 == i) && (!(q.1 == i + 1) && !(q.1 + 1 == i && q.2.category == 2))) = lv') (kk : G L Γ k n w pc' lv' st) : G L Γ k n w pc lv (.long x :: st) := by
  obtain ⟨p, e, R, s, m, args, below, meth, c, A, Q, nL⟩ := Γ
  obtain ⟨hx, hb, hml, hown, hts, hNW, hlk, hK, hR, hA⟩ := C
  intro H locs ls hP hD hS hl
  subst hp
  change nL = N at hN
  subst hN
  exact lv_lstore_n hx hb hd hji hl hle hlv (fun ls' hl' => kk H locs ls' hP hD hS hl')
theorem g_lstore {L : LL} {Γ : GC} {k n : Nat} {w : va_W} {lv : List (Nat × Value)} {st : List Value} {cc : ByteArray} {own : String} {rm : Room} (C : Cx L Γ cc own rm) {pc} (pc' : Nat) (i : Nat) (lv' : List (Nat × Value)) {x : Int64} (hd : decode cc pc = .ok (.lstore i, 2)) (hp : pc + 2 = pc') (N : Nat) (hN : gNL Γ = N) (hle : i + 1 < N) (hlv : (i, Value.long x) :: lv.filter (fun q => !(q.1 == i) && (!(q.1 == i + 1) && !(q.1 + 1 == i && q.2.category == 2))) = lv') (kk : G L Γ k n w pc' lv' st) : G L Γ k n w pc lv (.long x :: st) := by
  obtain ⟨p, e, R, s, m, args, below, meth, c, A, Q, nL⟩ := Γ
  obtain ⟨hx, hb, hml, hown, hts, hNW, hlk, hK, hR, hA⟩ := C
  intro H locs ls hP hD hS hl
  subst hp
  change nL = N at hN
  subst hN
  exact lv_lstore hx hb hd hl hle hlv (fun ls' hl' => kk H locs ls' hP hD hS hl')
theorem g_astore_n {L : LL} {Γ : GC} {k n : Nat} {w : va_W} {lv : List (Nat × Value)} {st : List Value} {cc : ByteArray} {own : String} {rm : Room} (C : Cx L Γ cc own rm) {pc} (pc' : Nat) {j : Fin 4} (i : Nat) (lv' : List (Nat × Value)) {x : Nat} (hd : decode cc pc = .ok (.astore_n j, 1)) (hp : pc + 1 = pc') (hji : (j : Nat) = i) (N : Nat) (hN : gNL Γ = N) (hle : i < N) (hlv : (i, Value.ref x) :: lv.filter (fun q => !(q.1 == i) && !(q.1 + 1 == i && q.2.category == 2)) = lv') (kk : G L Γ k n w pc' lv' st) : G L Γ k n w pc lv (.ref x :: st) := by
  obtain ⟨p, e, R, s, m, args, below, meth, c, A, Q, nL⟩ := Γ
  obtain ⟨hx, hb, hml, hown, hts, hNW, hlk, hK, hR, hA⟩ := C
  intro H locs ls hP hD hS hl
  subst hp
  change nL = N at hN
  subst hN
  exact lv_astore_n hx hb hd hji hl hle hlv (fun ls' hl' => kk H locs ls' hP hD hS hl')
theorem g_astore {L : LL} {Γ : GC} {k n : Nat} {w : va_W} {lv : List (Nat × Value)} {st : List Value} {cc : ByteArray} {own : String} {rm : Room} (C : Cx L Γ cc own rm) {pc} (pc' : Nat) (i : Nat) (lv' : List (Nat × Value)) {x : Nat} (hd : decode cc pc = .ok (.astore i, 2)) (hp : pc + 2 = pc') (N : Nat) (hN : gNL Γ = N) (hle : i < N) (hlv : (i, Value.ref x) :: lv.filter (fun q => !(q.1 == i) && !(q.1 + 1 == i && q.2.category == 2)) = lv') (kk : G L Γ k n w pc' lv' st) : G L Γ k n w pc lv (.ref x :: st) := by
  obtain ⟨p, e, R, s, m, args, below, meth, c, A, Q, nL⟩ := Γ
  obtain ⟨hx, hb, hml, hown, hts, hNW, hlk, hK, hR, hA⟩ := C
  intro H locs ls hP hD hS hl
  subst hp
  change nL = N at hN
  subst hN
  exact lv_astore hx hb hd hl hle hlv (fun ls' hl' => kk H locs ls' hP hD hS hl')
theorem g_iinc {L : LL} {Γ : GC} {k n : Nat} {w : va_W} {lv : List (Nat × Value)} {st : List Value} {cc : ByteArray} {own : String} {rm : Room} (C : Cx L Γ cc own rm) {pc} (pc' : Nat) {i : Nat} {z : Int} (zv : Int32) (q : Nat) {x : Int32} (lv' : List (Nat × Value)) (hd : decode cc pc = .ok (.iinc i z, 3)) (hp : pc + 3 = pc') (hz : Int32.ofInt z = zv) (N : Nat) (hN : gNL Γ = N) (hle : i < N) (hq : lv[q]? = some (i, .int x)) (hlv : (i, Value.int (x + zv)) :: lv.filter (fun q => !(q.1 == i) && !(q.1 + 1 == i && q.2.category == 2)) = lv') (kk : G L Γ k n w pc' lv' st) : G L Γ k n w pc lv st := by
  obtain ⟨p, e, R, s, m, args, below, meth, c, A, Q, nL⟩ := Γ
  obtain ⟨hx, hb, hml, hown, hts, hNW, hlk, hK, hR, hA⟩ := C
  intro H locs ls hP hD hS hl
  subst hp
  subst hz
  change nL = N at hN
  subst hN
  exact lv_iinc hx hb hd hl hq rfl hle hlv (fun ls' hl' => kk H locs ls' hP hD hS hl')
theorem g_iadd {L : LL} {Γ : GC} {k n : Nat} {w : va_W} {lv : List (Nat × Value)} {st : List Value} {cc : ByteArray} {own : String} {rm : Room} (C : Cx L Γ cc own rm) {pc} (pc' : Nat) {x y : Int32} (hd : decode cc pc = .ok (.iadd, 1)) (hp : pc + 1 = pc')  (kk : G L Γ k n w pc' lv (.int (x + y) :: st)) : G L Γ k n w pc lv (.int y :: .int x :: st) := by
  obtain ⟨p, e, R, s, m, args, below, meth, c, A, Q, nL⟩ := Γ
  obtain ⟨hx, hb, hml, hown, hts, hNW, hlk, hK, hR, hA⟩ := C
  intro H locs ls hP hD hS hl
  subst hp
  exact lv_iadd hx hb hd (kk H locs ls hP hD hS hl)
theorem g_isub {L : LL} {Γ : GC} {k n : Nat} {w : va_W} {lv : List (Nat × Value)} {st : List Value} {cc : ByteArray} {own : String} {rm : Room} (C : Cx L Γ cc own rm) {pc} (pc' : Nat) {x y : Int32} (hd : decode cc pc = .ok (.isub, 1)) (hp : pc + 1 = pc')  (kk : G L Γ k n w pc' lv (.int (x - y) :: st)) : G L Γ k n w pc lv (.int y :: .int x :: st) := by
  obtain ⟨p, e, R, s, m, args, below, meth, c, A, Q, nL⟩ := Γ
  obtain ⟨hx, hb, hml, hown, hts, hNW, hlk, hK, hR, hA⟩ := C
  intro H locs ls hP hD hS hl
  subst hp
  exact lv_isub hx hb hd (kk H locs ls hP hD hS hl)
theorem g_imul {L : LL} {Γ : GC} {k n : Nat} {w : va_W} {lv : List (Nat × Value)} {st : List Value} {cc : ByteArray} {own : String} {rm : Room} (C : Cx L Γ cc own rm) {pc} (pc' : Nat) {x y : Int32} (hd : decode cc pc = .ok (.imul, 1)) (hp : pc + 1 = pc')  (kk : G L Γ k n w pc' lv (.int (x * y) :: st)) : G L Γ k n w pc lv (.int y :: .int x :: st) := by
  obtain ⟨p, e, R, s, m, args, below, meth, c, A, Q, nL⟩ := Γ
  obtain ⟨hx, hb, hml, hown, hts, hNW, hlk, hK, hR, hA⟩ := C
  intro H locs ls hP hD hS hl
  subst hp
  exact lv_imul hx hb hd (kk H locs ls hP hD hS hl)
theorem g_iand {L : LL} {Γ : GC} {k n : Nat} {w : va_W} {lv : List (Nat × Value)} {st : List Value} {cc : ByteArray} {own : String} {rm : Room} (C : Cx L Γ cc own rm) {pc} (pc' : Nat) {x y : Int32} (hd : decode cc pc = .ok (.iand, 1)) (hp : pc + 1 = pc')  (kk : G L Γ k n w pc' lv (.int (x &&& y) :: st)) : G L Γ k n w pc lv (.int y :: .int x :: st) := by
  obtain ⟨p, e, R, s, m, args, below, meth, c, A, Q, nL⟩ := Γ
  obtain ⟨hx, hb, hml, hown, hts, hNW, hlk, hK, hR, hA⟩ := C
  intro H locs ls hP hD hS hl
  subst hp
  exact lv_iand hx hb hd (kk H locs ls hP hD hS hl)
theorem g_ior {L : LL} {Γ : GC} {k n : Nat} {w : va_W} {lv : List (Nat × Value)} {st : List Value} {cc : ByteArray} {own : String} {rm : Room} (C : Cx L Γ cc own rm) {pc} (pc' : Nat) {x y : Int32} (hd : decode cc pc = .ok (.ior, 1)) (hp : pc + 1 = pc')  (kk : G L Γ k n w pc' lv (.int (x ||| y) :: st)) : G L Γ k n w pc lv (.int y :: .int x :: st) := by
  obtain ⟨p, e, R, s, m, args, below, meth, c, A, Q, nL⟩ := Γ
  obtain ⟨hx, hb, hml, hown, hts, hNW, hlk, hK, hR, hA⟩ := C
  intro H locs ls hP hD hS hl
  subst hp
  exact lv_ior hx hb hd (kk H locs ls hP hD hS hl)
theorem g_ixor {L : LL} {Γ : GC} {k n : Nat} {w : va_W} {lv : List (Nat × Value)} {st : List Value} {cc : ByteArray} {own : String} {rm : Room} (C : Cx L Γ cc own rm) {pc} (pc' : Nat) {x y : Int32} (hd : decode cc pc = .ok (.ixor, 1)) (hp : pc + 1 = pc')  (kk : G L Γ k n w pc' lv (.int (x ^^^ y) :: st)) : G L Γ k n w pc lv (.int y :: .int x :: st) := by
  obtain ⟨p, e, R, s, m, args, below, meth, c, A, Q, nL⟩ := Γ
  obtain ⟨hx, hb, hml, hown, hts, hNW, hlk, hK, hR, hA⟩ := C
  intro H locs ls hP hD hS hl
  subst hp
  exact lv_ixor hx hb hd (kk H locs ls hP hD hS hl)
theorem g_ladd {L : LL} {Γ : GC} {k n : Nat} {w : va_W} {lv : List (Nat × Value)} {st : List Value} {cc : ByteArray} {own : String} {rm : Room} (C : Cx L Γ cc own rm) {pc} (pc' : Nat) {x y : Int64} (hd : decode cc pc = .ok (.ladd, 1)) (hp : pc + 1 = pc')  (kk : G L Γ k n w pc' lv (.long (x + y) :: st)) : G L Γ k n w pc lv (.long y :: .long x :: st) := by
  obtain ⟨p, e, R, s, m, args, below, meth, c, A, Q, nL⟩ := Γ
  obtain ⟨hx, hb, hml, hown, hts, hNW, hlk, hK, hR, hA⟩ := C
  intro H locs ls hP hD hS hl
  subst hp
  exact lv_ladd hx hb hd (kk H locs ls hP hD hS hl)
theorem g_lsub {L : LL} {Γ : GC} {k n : Nat} {w : va_W} {lv : List (Nat × Value)} {st : List Value} {cc : ByteArray} {own : String} {rm : Room} (C : Cx L Γ cc own rm) {pc} (pc' : Nat) {x y : Int64} (hd : decode cc pc = .ok (.lsub, 1)) (hp : pc + 1 = pc')  (kk : G L Γ k n w pc' lv (.long (x - y) :: st)) : G L Γ k n w pc lv (.long y :: .long x :: st) := by
  obtain ⟨p, e, R, s, m, args, below, meth, c, A, Q, nL⟩ := Γ
  obtain ⟨hx, hb, hml, hown, hts, hNW, hlk, hK, hR, hA⟩ := C
  intro H locs ls hP hD hS hl
  subst hp
  exact lv_lsub hx hb hd (kk H locs ls hP hD hS hl)
theorem g_lmul {L : LL} {Γ : GC} {k n : Nat} {w : va_W} {lv : List (Nat × Value)} {st : List Value} {cc : ByteArray} {own : String} {rm : Room} (C : Cx L Γ cc own rm) {pc} (pc' : Nat) {x y : Int64} (hd : decode cc pc = .ok (.lmul, 1)) (hp : pc + 1 = pc')  (kk : G L Γ k n w pc' lv (.long (x * y) :: st)) : G L Γ k n w pc lv (.long y :: .long x :: st) := by
  obtain ⟨p, e, R, s, m, args, below, meth, c, A, Q, nL⟩ := Γ
  obtain ⟨hx, hb, hml, hown, hts, hNW, hlk, hK, hR, hA⟩ := C
  intro H locs ls hP hD hS hl
  subst hp
  exact lv_lmul hx hb hd (kk H locs ls hP hD hS hl)
theorem g_idiv {L : LL} {Γ : GC} {k n : Nat} {w : va_W} {lv : List (Nat × Value)} {st : List Value} {cc : ByteArray} {own : String} {rm : Room} (C : Cx L Γ cc own rm) {pc} (pc' : Nat) {x y : Int32} (hd : decode cc pc = .ok (.idiv, 1)) (hp : pc + 1 = pc') (hne : ¬ y = 0) (kk : G L Γ k n w pc' lv (.int (x / y) :: st)) : G L Γ k n w pc lv (.int y :: .int x :: st) := by
  obtain ⟨p, e, R, s, m, args, below, meth, c, A, Q, nL⟩ := Γ
  obtain ⟨hx, hb, hml, hown, hts, hNW, hlk, hK, hR, hA⟩ := C
  intro H locs ls hP hD hS hl
  subst hp
  exact lv_idiv hx hb hd hne (kk H locs ls hP hD hS hl)
theorem g_irem {L : LL} {Γ : GC} {k n : Nat} {w : va_W} {lv : List (Nat × Value)} {st : List Value} {cc : ByteArray} {own : String} {rm : Room} (C : Cx L Γ cc own rm) {pc} (pc' : Nat) {x y : Int32} (hd : decode cc pc = .ok (.irem, 1)) (hp : pc + 1 = pc') (hne : ¬ y = 0) (kk : G L Γ k n w pc' lv (.int (remI x y) :: st)) : G L Γ k n w pc lv (.int y :: .int x :: st) := by
  obtain ⟨p, e, R, s, m, args, below, meth, c, A, Q, nL⟩ := Γ
  obtain ⟨hx, hb, hml, hown, hts, hNW, hlk, hK, hR, hA⟩ := C
  intro H locs ls hP hD hS hl
  subst hp
  exact lv_irem hx hb hd hne (kk H locs ls hP hD hS hl)
theorem g_ldiv {L : LL} {Γ : GC} {k n : Nat} {w : va_W} {lv : List (Nat × Value)} {st : List Value} {cc : ByteArray} {own : String} {rm : Room} (C : Cx L Γ cc own rm) {pc} (pc' : Nat) {x y : Int64} (hd : decode cc pc = .ok (.ldiv, 1)) (hp : pc + 1 = pc') (hne : ¬ y = 0) (kk : G L Γ k n w pc' lv (.long (x / y) :: st)) : G L Γ k n w pc lv (.long y :: .long x :: st) := by
  obtain ⟨p, e, R, s, m, args, below, meth, c, A, Q, nL⟩ := Γ
  obtain ⟨hx, hb, hml, hown, hts, hNW, hlk, hK, hR, hA⟩ := C
  intro H locs ls hP hD hS hl
  subst hp
  exact lv_ldiv hx hb hd hne (kk H locs ls hP hD hS hl)
theorem g_lrem {L : LL} {Γ : GC} {k n : Nat} {w : va_W} {lv : List (Nat × Value)} {st : List Value} {cc : ByteArray} {own : String} {rm : Room} (C : Cx L Γ cc own rm) {pc} (pc' : Nat) {x y : Int64} (hd : decode cc pc = .ok (.lrem, 1)) (hp : pc + 1 = pc') (hne : ¬ y = 0) (kk : G L Γ k n w pc' lv (.long (remL x y) :: st)) : G L Γ k n w pc lv (.long y :: .long x :: st) := by
  obtain ⟨p, e, R, s, m, args, below, meth, c, A, Q, nL⟩ := Γ
  obtain ⟨hx, hb, hml, hown, hts, hNW, hlk, hK, hR, hA⟩ := C
  intro H locs ls hP hD hS hl
  subst hp
  exact lv_lrem hx hb hd hne (kk H locs ls hP hD hS hl)
theorem g_ineg {L : LL} {Γ : GC} {k n : Nat} {w : va_W} {lv : List (Nat × Value)} {st : List Value} {cc : ByteArray} {own : String} {rm : Room} (C : Cx L Γ cc own rm) {pc} (pc' : Nat) {x : Int32} (hd : decode cc pc = .ok (.ineg, 1)) (hp : pc + 1 = pc')  (kk : G L Γ k n w pc' lv (.int (-x) :: st)) : G L Γ k n w pc lv (.int x :: st) := by
  obtain ⟨p, e, R, s, m, args, below, meth, c, A, Q, nL⟩ := Γ
  obtain ⟨hx, hb, hml, hown, hts, hNW, hlk, hK, hR, hA⟩ := C
  intro H locs ls hP hD hS hl
  subst hp
  exact lv_ineg hx hb hd (kk H locs ls hP hD hS hl)
theorem g_ishl {L : LL} {Γ : GC} {k n : Nat} {w : va_W} {lv : List (Nat × Value)} {st : List Value} {cc : ByteArray} {own : String} {rm : Room} (C : Cx L Γ cc own rm) {pc} (pc' : Nat) {x y : Int32} (hd : decode cc pc = .ok (.ishl, 1)) (hp : pc + 1 = pc')  (kk : G L Γ k n w pc' lv (.int (x <<< (y &&& 31)) :: st)) : G L Γ k n w pc lv (.int y :: .int x :: st) := by
  obtain ⟨p, e, R, s, m, args, below, meth, c, A, Q, nL⟩ := Γ
  obtain ⟨hx, hb, hml, hown, hts, hNW, hlk, hK, hR, hA⟩ := C
  intro H locs ls hP hD hS hl
  subst hp
  exact lv_ishl hx hb hd (kk H locs ls hP hD hS hl)
theorem g_ishr {L : LL} {Γ : GC} {k n : Nat} {w : va_W} {lv : List (Nat × Value)} {st : List Value} {cc : ByteArray} {own : String} {rm : Room} (C : Cx L Γ cc own rm) {pc} (pc' : Nat) {x y : Int32} (hd : decode cc pc = .ok (.ishr, 1)) (hp : pc + 1 = pc')  (kk : G L Γ k n w pc' lv (.int (x >>> (y &&& 31)) :: st)) : G L Γ k n w pc lv (.int y :: .int x :: st) := by
  obtain ⟨p, e, R, s, m, args, below, meth, c, A, Q, nL⟩ := Γ
  obtain ⟨hx, hb, hml, hown, hts, hNW, hlk, hK, hR, hA⟩ := C
  intro H locs ls hP hD hS hl
  subst hp
  exact lv_ishr hx hb hd (kk H locs ls hP hD hS hl)
theorem g_iushr {L : LL} {Γ : GC} {k n : Nat} {w : va_W} {lv : List (Nat × Value)} {st : List Value} {cc : ByteArray} {own : String} {rm : Room} (C : Cx L Γ cc own rm) {pc} (pc' : Nat) {x y : Int32} (hd : decode cc pc = .ok (.iushr, 1)) (hp : pc + 1 = pc')  (kk : G L Γ k n w pc' lv (.int (ushr x y) :: st)) : G L Γ k n w pc lv (.int y :: .int x :: st) := by
  obtain ⟨p, e, R, s, m, args, below, meth, c, A, Q, nL⟩ := Γ
  obtain ⟨hx, hb, hml, hown, hts, hNW, hlk, hK, hR, hA⟩ := C
  intro H locs ls hP hD hS hl
  subst hp
  exact lv_iushr hx hb hd rfl (kk H locs ls hP hD hS hl)
theorem g_lcmp {L : LL} {Γ : GC} {k n : Nat} {w : va_W} {lv : List (Nat × Value)} {st : List Value} {cc : ByteArray} {own : String} {rm : Room} (C : Cx L Γ cc own rm) {pc} (pc' : Nat) {x y : Int64} (hd : decode cc pc = .ok (.lcmp, 1)) (hp : pc + 1 = pc')  (kk : G L Γ k n w pc' lv (.int (lg_cmp x y) :: st)) : G L Γ k n w pc lv (.long y :: .long x :: st) := by
  obtain ⟨p, e, R, s, m, args, below, meth, c, A, Q, nL⟩ := Γ
  obtain ⟨hx, hb, hml, hown, hts, hNW, hlk, hK, hR, hA⟩ := C
  intro H locs ls hP hD hS hl
  subst hp
  exact W.lcmp hx hb hd (kk H locs ls hP hD hS hl)
theorem g_i2l {L : LL} {Γ : GC} {k n : Nat} {w : va_W} {lv : List (Nat × Value)} {st : List Value} {cc : ByteArray} {own : String} {rm : Room} (C : Cx L Γ cc own rm) {pc} (pc' : Nat) {x : Int32} (hd : decode cc pc = .ok (.i2l, 1)) (hp : pc + 1 = pc')  (kk : G L Γ k n w pc' lv (.long x.toInt64 :: st)) : G L Γ k n w pc lv (.int x :: st) := by
  obtain ⟨p, e, R, s, m, args, below, meth, c, A, Q, nL⟩ := Γ
  obtain ⟨hx, hb, hml, hown, hts, hNW, hlk, hK, hR, hA⟩ := C
  intro H locs ls hP hD hS hl
  subst hp
  exact lv_i2l hx hb hd rfl (kk H locs ls hP hD hS hl)
theorem g_dup {L : LL} {Γ : GC} {k n : Nat} {w : va_W} {lv : List (Nat × Value)} {st : List Value} {cc : ByteArray} {own : String} {rm : Room} (C : Cx L Γ cc own rm) {pc} (pc' : Nat) {v : Value} (hd : decode cc pc = .ok (.dup, 1)) (hp : pc + 1 = pc') (hv : v.category = 1) (kk : G L Γ k n w pc' lv (v :: v :: st)) : G L Γ k n w pc lv (v :: st) := by
  obtain ⟨p, e, R, s, m, args, below, meth, c, A, Q, nL⟩ := Γ
  obtain ⟨hx, hb, hml, hown, hts, hNW, hlk, hK, hR, hA⟩ := C
  intro H locs ls hP hD hS hl
  subst hp
  exact lv_dup hx hb hd hv (kk H locs ls hP hD hS hl)
theorem g_dup2 {L : LL} {Γ : GC} {k n : Nat} {w : va_W} {lv : List (Nat × Value)} {st : List Value} {cc : ByteArray} {own : String} {rm : Room} (C : Cx L Γ cc own rm) {pc} (pc' : Nat) {v u : Value} (hd : decode cc pc = .ok (.dup2, 1)) (hp : pc + 1 = pc') (hv : v.category = 1) (hu : u.category = 1) (kk : G L Γ k n w pc' lv (v :: u :: v :: u :: st)) : G L Γ k n w pc lv (v :: u :: st) := by
  obtain ⟨p, e, R, s, m, args, below, meth, c, A, Q, nL⟩ := Γ
  obtain ⟨hx, hb, hml, hown, hts, hNW, hlk, hK, hR, hA⟩ := C
  intro H locs ls hP hD hS hl
  subst hp
  exact lv_dup2_11 hx hb hd hv hu (kk H locs ls hP hD hS hl)
theorem g_dup_x1 {L : LL} {Γ : GC} {k n : Nat} {w : va_W} {lv : List (Nat × Value)} {st : List Value} {cc : ByteArray} {own : String} {rm : Room} (C : Cx L Γ cc own rm) {pc} (pc' : Nat) {v u : Value} (hd : decode cc pc = .ok (.dup_x1, 1)) (hp : pc + 1 = pc') (hv : v.category = 1) (hu : u.category = 1) (kk : G L Γ k n w pc' lv (v :: u :: v :: st)) : G L Γ k n w pc lv (v :: u :: st) := by
  obtain ⟨p, e, R, s, m, args, below, meth, c, A, Q, nL⟩ := Γ
  obtain ⟨hx, hb, hml, hown, hts, hNW, hlk, hK, hR, hA⟩ := C
  intro H locs ls hP hD hS hl
  subst hp
  exact lv_dup_x1 hx hb hd hv hu (kk H locs ls hP hD hS hl)
theorem g_pop {L : LL} {Γ : GC} {k n : Nat} {w : va_W} {lv : List (Nat × Value)} {st : List Value} {cc : ByteArray} {own : String} {rm : Room} (C : Cx L Γ cc own rm) {pc} (pc' : Nat) {v : Value} (hd : decode cc pc = .ok (.pop, 1)) (hp : pc + 1 = pc') (hv : v.category = 1) (kk : G L Γ k n w pc' lv (st)) : G L Γ k n w pc lv (v :: st) := by
  obtain ⟨p, e, R, s, m, args, below, meth, c, A, Q, nL⟩ := Γ
  obtain ⟨hx, hb, hml, hown, hts, hNW, hlk, hK, hR, hA⟩ := C
  intro H locs ls hP hD hS hl
  subst hp
  exact lv_pop hx hb hd hv (kk H locs ls hP hD hS hl)
theorem g_ifnull {L : LL} {Γ : GC} {k n : Nat} {w : va_W} {lv : List (Nat × Value)} {st : List Value} {cc : ByteArray} {own : String} {rm : Room} (C : Cx L Γ cc own rm) {pc} (pc' : Nat) {off : Int} {a : Nat} (hd : decode cc pc = .ok (.ifnull off, 3)) (hp : pc + 3 = pc')  (kk : G L Γ k n w pc' lv (st)) : G L Γ k n w pc lv (.ref a :: st) := by
  obtain ⟨p, e, R, s, m, args, below, meth, c, A, Q, nL⟩ := Γ
  obtain ⟨hx, hb, hml, hown, hts, hNW, hlk, hK, hR, hA⟩ := C
  intro H locs ls hP hD hS hl
  subst hp
  exact lv_ifnull hx hb hd (kk H locs ls hP hD hS hl)
theorem g_goto {L : LL} {Γ : GC} {k n : Nat} {w : va_W} {lv : List (Nat × Value)} {st : List Value} {cc : ByteArray} {own : String} {rm : Room} (C : Cx L Γ cc own rm) {pc} (pc' : Nat) {off : Int} (hd : decode cc pc = .ok (.goto off, 3)) (ht : (pc : Int) + off = (pc' : Int)) (kk : G L Γ k n w pc' lv st) : G L Γ k n w pc lv st := by
  obtain ⟨p, e, R, s, m, args, below, meth, c, A, Q, nL⟩ := Γ
  obtain ⟨hx, hb, hml, hown, hts, hNW, hlk, hK, hR, hA⟩ := C
  intro H locs ls hP hD hS hl
  exact lv_goto hx hb hd ht (kk H locs ls hP hD hS hl)
theorem g_if_eq {L : LL} {Γ : GC} {k n : Nat} {w : va_W} {lv : List (Nat × Value)} {st : List Value} {cc : ByteArray} {own : String} {rm : Room} (C : Cx L Γ cc own rm) {pc} (tgt pc' : Nat) {off : Int} {x : Int32} (hd : decode cc pc = .ok (.ifCond .eq off, 3)) (ht : (pc : Int) + off = (tgt : Int)) (hp : pc + 3 = pc') (kt : (x = 0) → G L Γ k n w tgt lv st) (kf : (¬ (x = 0)) → G L Γ k n w pc' lv st) : G L Γ k n w pc lv (.int x :: st) := by
  obtain ⟨p, e, R, s, m, args, below, meth, c, A, Q, nL⟩ := Γ
  obtain ⟨hx, hb, hml, hown, hts, hNW, hlk, hK, hR, hA⟩ := C
  intro H locs ls hP hD hS hl
  subst hp
  exact lv_if_eq hx hb hd ht (fun q => kt q H locs ls hP hD hS hl) (fun q => kf q H locs ls hP hD hS hl)
theorem g_icmp_eq {L : LL} {Γ : GC} {k n : Nat} {w : va_W} {lv : List (Nat × Value)} {st : List Value} {cc : ByteArray} {own : String} {rm : Room} (C : Cx L Γ cc own rm) {pc} (tgt pc' : Nat) {off : Int} {x y : Int32} (hd : decode cc pc = .ok (.if_icmp .eq off, 3)) (ht : (pc : Int) + off = (tgt : Int)) (hp : pc + 3 = pc') (kt : (x = y) → G L Γ k n w tgt lv st) (kf : (¬ (x = y)) → G L Γ k n w pc' lv st) : G L Γ k n w pc lv (.int y :: .int x :: st) := by
  obtain ⟨p, e, R, s, m, args, below, meth, c, A, Q, nL⟩ := Γ
  obtain ⟨hx, hb, hml, hown, hts, hNW, hlk, hK, hR, hA⟩ := C
  intro H locs ls hP hD hS hl
  subst hp
  exact lv_icmp_eq hx hb hd ht (fun q => kt q H locs ls hP hD hS hl) (fun q => kf q H locs ls hP hD hS hl)
theorem g_if_ne {L : LL} {Γ : GC} {k n : Nat} {w : va_W} {lv : List (Nat × Value)} {st : List Value} {cc : ByteArray} {own : String} {rm : Room} (C : Cx L Γ cc own rm) {pc} (tgt pc' : Nat) {off : Int} {x : Int32} (hd : decode cc pc = .ok (.ifCond .ne off, 3)) (ht : (pc : Int) + off = (tgt : Int)) (hp : pc + 3 = pc') (kt : (¬ x = 0) → G L Γ k n w tgt lv st) (kf : (x = 0) → G L Γ k n w pc' lv st) : G L Γ k n w pc lv (.int x :: st) := by
  obtain ⟨p, e, R, s, m, args, below, meth, c, A, Q, nL⟩ := Γ
  obtain ⟨hx, hb, hml, hown, hts, hNW, hlk, hK, hR, hA⟩ := C
  intro H locs ls hP hD hS hl
  subst hp
  exact lv_if_ne hx hb hd ht (fun q => kt q H locs ls hP hD hS hl) (fun q => kf q H locs ls hP hD hS hl)
theorem g_icmp_ne {L : LL} {Γ : GC} {k n : Nat} {w : va_W} {lv : List (Nat × Value)} {st : List Value} {cc : ByteArray} {own : String} {rm : Room} (C : Cx L Γ cc own rm) {pc} (tgt pc' : Nat) {off : Int} {x y : Int32} (hd : decode cc pc = .ok (.if_icmp .ne off, 3)) (ht : (pc : Int) + off = (tgt : Int)) (hp : pc + 3 = pc') (kt : (¬ x = y) → G L Γ k n w tgt lv st) (kf : (x = y) → G L Γ k n w pc' lv st) : G L Γ k n w pc lv (.int y :: .int x :: st) := by
  obtain ⟨p, e, R, s, m, args, below, meth, c, A, Q, nL⟩ := Γ
  obtain ⟨hx, hb, hml, hown, hts, hNW, hlk, hK, hR, hA⟩ := C
  intro H locs ls hP hD hS hl
  subst hp
  exact lv_icmp_ne hx hb hd ht (fun q => kt q H locs ls hP hD hS hl) (fun q => kf q H locs ls hP hD hS hl)
theorem g_if_lt {L : LL} {Γ : GC} {k n : Nat} {w : va_W} {lv : List (Nat × Value)} {st : List Value} {cc : ByteArray} {own : String} {rm : Room} (C : Cx L Γ cc own rm) {pc} (tgt pc' : Nat) {off : Int} {x : Int32} (hd : decode cc pc = .ok (.ifCond .lt off, 3)) (ht : (pc : Int) + off = (tgt : Int)) (hp : pc + 3 = pc') (kt : (x < 0) → G L Γ k n w tgt lv st) (kf : (¬ (x < 0)) → G L Γ k n w pc' lv st) : G L Γ k n w pc lv (.int x :: st) := by
  obtain ⟨p, e, R, s, m, args, below, meth, c, A, Q, nL⟩ := Γ
  obtain ⟨hx, hb, hml, hown, hts, hNW, hlk, hK, hR, hA⟩ := C
  intro H locs ls hP hD hS hl
  subst hp
  exact lv_if_lt hx hb hd ht (fun q => kt q H locs ls hP hD hS hl) (fun q => kf q H locs ls hP hD hS hl)
theorem g_icmp_lt {L : LL} {Γ : GC} {k n : Nat} {w : va_W} {lv : List (Nat × Value)} {st : List Value} {cc : ByteArray} {own : String} {rm : Room} (C : Cx L Γ cc own rm) {pc} (tgt pc' : Nat) {off : Int} {x y : Int32} (hd : decode cc pc = .ok (.if_icmp .lt off, 3)) (ht : (pc : Int) + off = (tgt : Int)) (hp : pc + 3 = pc') (kt : (x < y) → G L Γ k n w tgt lv st) (kf : (¬ (x < y)) → G L Γ k n w pc' lv st) : G L Γ k n w pc lv (.int y :: .int x :: st) := by
  obtain ⟨p, e, R, s, m, args, below, meth, c, A, Q, nL⟩ := Γ
  obtain ⟨hx, hb, hml, hown, hts, hNW, hlk, hK, hR, hA⟩ := C
  intro H locs ls hP hD hS hl
  subst hp
  exact lv_icmp_lt hx hb hd ht (fun q => kt q H locs ls hP hD hS hl) (fun q => kf q H locs ls hP hD hS hl)
theorem g_if_ge {L : LL} {Γ : GC} {k n : Nat} {w : va_W} {lv : List (Nat × Value)} {st : List Value} {cc : ByteArray} {own : String} {rm : Room} (C : Cx L Γ cc own rm) {pc} (tgt pc' : Nat) {off : Int} {x : Int32} (hd : decode cc pc = .ok (.ifCond .ge off, 3)) (ht : (pc : Int) + off = (tgt : Int)) (hp : pc + 3 = pc') (kt : (0 ≤ x) → G L Γ k n w tgt lv st) (kf : (¬ (0 ≤ x)) → G L Γ k n w pc' lv st) : G L Γ k n w pc lv (.int x :: st) := by
  obtain ⟨p, e, R, s, m, args, below, meth, c, A, Q, nL⟩ := Γ
  obtain ⟨hx, hb, hml, hown, hts, hNW, hlk, hK, hR, hA⟩ := C
  intro H locs ls hP hD hS hl
  subst hp
  exact lv_if_ge hx hb hd ht (fun q => kt q H locs ls hP hD hS hl) (fun q => kf q H locs ls hP hD hS hl)
theorem g_icmp_ge {L : LL} {Γ : GC} {k n : Nat} {w : va_W} {lv : List (Nat × Value)} {st : List Value} {cc : ByteArray} {own : String} {rm : Room} (C : Cx L Γ cc own rm) {pc} (tgt pc' : Nat) {off : Int} {x y : Int32} (hd : decode cc pc = .ok (.if_icmp .ge off, 3)) (ht : (pc : Int) + off = (tgt : Int)) (hp : pc + 3 = pc') (kt : (y ≤ x) → G L Γ k n w tgt lv st) (kf : (¬ (y ≤ x)) → G L Γ k n w pc' lv st) : G L Γ k n w pc lv (.int y :: .int x :: st) := by
  obtain ⟨p, e, R, s, m, args, below, meth, c, A, Q, nL⟩ := Γ
  obtain ⟨hx, hb, hml, hown, hts, hNW, hlk, hK, hR, hA⟩ := C
  intro H locs ls hP hD hS hl
  subst hp
  exact lv_icmp_ge hx hb hd ht (fun q => kt q H locs ls hP hD hS hl) (fun q => kf q H locs ls hP hD hS hl)
theorem g_if_gt {L : LL} {Γ : GC} {k n : Nat} {w : va_W} {lv : List (Nat × Value)} {st : List Value} {cc : ByteArray} {own : String} {rm : Room} (C : Cx L Γ cc own rm) {pc} (tgt pc' : Nat) {off : Int} {x : Int32} (hd : decode cc pc = .ok (.ifCond .gt off, 3)) (ht : (pc : Int) + off = (tgt : Int)) (hp : pc + 3 = pc') (kt : (0 < x) → G L Γ k n w tgt lv st) (kf : (¬ (0 < x)) → G L Γ k n w pc' lv st) : G L Γ k n w pc lv (.int x :: st) := by
  obtain ⟨p, e, R, s, m, args, below, meth, c, A, Q, nL⟩ := Γ
  obtain ⟨hx, hb, hml, hown, hts, hNW, hlk, hK, hR, hA⟩ := C
  intro H locs ls hP hD hS hl
  subst hp
  exact lv_if_gt hx hb hd ht (fun q => kt q H locs ls hP hD hS hl) (fun q => kf q H locs ls hP hD hS hl)
theorem g_icmp_gt {L : LL} {Γ : GC} {k n : Nat} {w : va_W} {lv : List (Nat × Value)} {st : List Value} {cc : ByteArray} {own : String} {rm : Room} (C : Cx L Γ cc own rm) {pc} (tgt pc' : Nat) {off : Int} {x y : Int32} (hd : decode cc pc = .ok (.if_icmp .gt off, 3)) (ht : (pc : Int) + off = (tgt : Int)) (hp : pc + 3 = pc') (kt : (y < x) → G L Γ k n w tgt lv st) (kf : (¬ (y < x)) → G L Γ k n w pc' lv st) : G L Γ k n w pc lv (.int y :: .int x :: st) := by
  obtain ⟨p, e, R, s, m, args, below, meth, c, A, Q, nL⟩ := Γ
  obtain ⟨hx, hb, hml, hown, hts, hNW, hlk, hK, hR, hA⟩ := C
  intro H locs ls hP hD hS hl
  subst hp
  exact lv_icmp_gt hx hb hd ht (fun q => kt q H locs ls hP hD hS hl) (fun q => kf q H locs ls hP hD hS hl)
theorem g_if_le {L : LL} {Γ : GC} {k n : Nat} {w : va_W} {lv : List (Nat × Value)} {st : List Value} {cc : ByteArray} {own : String} {rm : Room} (C : Cx L Γ cc own rm) {pc} (tgt pc' : Nat) {off : Int} {x : Int32} (hd : decode cc pc = .ok (.ifCond .le off, 3)) (ht : (pc : Int) + off = (tgt : Int)) (hp : pc + 3 = pc') (kt : (x ≤ 0) → G L Γ k n w tgt lv st) (kf : (¬ (x ≤ 0)) → G L Γ k n w pc' lv st) : G L Γ k n w pc lv (.int x :: st) := by
  obtain ⟨p, e, R, s, m, args, below, meth, c, A, Q, nL⟩ := Γ
  obtain ⟨hx, hb, hml, hown, hts, hNW, hlk, hK, hR, hA⟩ := C
  intro H locs ls hP hD hS hl
  subst hp
  exact lv_if_le hx hb hd ht (fun q => kt q H locs ls hP hD hS hl) (fun q => kf q H locs ls hP hD hS hl)
theorem g_icmp_le {L : LL} {Γ : GC} {k n : Nat} {w : va_W} {lv : List (Nat × Value)} {st : List Value} {cc : ByteArray} {own : String} {rm : Room} (C : Cx L Γ cc own rm) {pc} (tgt pc' : Nat) {off : Int} {x y : Int32} (hd : decode cc pc = .ok (.if_icmp .le off, 3)) (ht : (pc : Int) + off = (tgt : Int)) (hp : pc + 3 = pc') (kt : (x ≤ y) → G L Γ k n w tgt lv st) (kf : (¬ (x ≤ y)) → G L Γ k n w pc' lv st) : G L Γ k n w pc lv (.int y :: .int x :: st) := by
  obtain ⟨p, e, R, s, m, args, below, meth, c, A, Q, nL⟩ := Γ
  obtain ⟨hx, hb, hml, hown, hts, hNW, hlk, hK, hR, hA⟩ := C
  intro H locs ls hP hD hS hl
  subst hp
  exact lv_icmp_le hx hb hd ht (fun q => kt q H locs ls hP hD hS hl) (fun q => kf q H locs ls hP hD hS hl)
theorem g_lookup {L : LL} {Γ : GC} {k n : Nat} {w : va_W} {lv : List (Nat × Value)} {st : List Value} {cc : ByteArray} {own : String} {rm : Room} (C : Cx L Γ cc own rm) {pc} (pc' : Nat) {dflt : Int} {ps : Array (Int × Int)} {len : Nat} {x : Int32} (off : Int) (hd : decode cc pc = .ok (.lookupswitch dflt ps, len)) (hq : (ps.toList.zip (ps.toList.drop 1)).all (fun (a, next) => a.1 < next.1) = true) (ho : Op.lookupswitch.offset ps.toList dflt x.toInt = off) (ht : (pc : Int) + off = (pc' : Int)) (kk : G L Γ k n w pc' lv st) : G L Γ k n w pc lv (.int x :: st) := by
  obtain ⟨p, e, R, s, m, args, below, meth, c, A, Q, nL⟩ := Γ
  obtain ⟨hx, hb, hml, hown, hts, hNW, hlk, hK, hR, hA⟩ := C
  intro H locs ls hP hD hS hl
  exact lv_lookup hx hb hd hq ho ht (kk H locs ls hP hD hS hl)
theorem g_tabOut {L : LL} {Γ : GC} {k n : Nat} {w : va_W} {lv : List (Nat × Value)} {st : List Value} {cc : ByteArray} {own : String} {rm : Room} (C : Cx L Γ cc own rm) {pc} (pc' : Nat) {dflt lo hi : Int} {offs : Array Int} {len : Nat} {x : Int32} (hd : decode cc pc = .ok (.tableswitch dflt lo hi offs, len)) (h : x.toInt < lo ∨ hi < x.toInt) (ht : (pc : Int) + dflt = (pc' : Int)) (kk : G L Γ k n w pc' lv st) : G L Γ k n w pc lv (.int x :: st) := by
  obtain ⟨p, e, R, s, m, args, below, meth, c, A, Q, nL⟩ := Γ
  obtain ⟨hx, hb, hml, hown, hts, hNW, hlk, hK, hR, hA⟩ := C
  intro H locs ls hP hD hS hl
  exact lv_tableOut hx hb hd h ht (kk H locs ls hP hD hS hl)
theorem g_tabIn {L : LL} {Γ : GC} {k n : Nat} {w : va_W} {lv : List (Nat × Value)} {st : List Value} {cc : ByteArray} {own : String} {rm : Room} (C : Cx L Γ cc own rm) {pc} (pc' : Nat) {dflt lo hi : Int} {offs : Array Int} {len : Nat} {x : Int32} (off : Int) (hd : decode cc pc = .ok (.tableswitch dflt lo hi offs, len)) (h1 : ¬ x.toInt < lo) (h2 : ¬ hi < x.toInt) (ho : offs[(x.toInt - lo).toNat]? = some off) (ht : (pc : Int) + off = (pc' : Int)) (kk : G L Γ k n w pc' lv st) : G L Γ k n w pc lv (.int x :: st) := by
  obtain ⟨p, e, R, s, m, args, below, meth, c, A, Q, nL⟩ := Γ
  obtain ⟨hx, hb, hml, hown, hts, hNW, hlk, hK, hR, hA⟩ := C
  intro H locs ls hP hD hS hl
  exact lv_tableIn hx hb hd h1 h2 ho ht (kk H locs ls hP hD hS hl)
theorem g_get {L : LL} {Γ : GC} {k n : Nat} {w : va_W} {lv : List (Nat × Value)} {st : List Value} {cc : ByteArray} {own : String} {rm : Room} (C : Cx L Γ cc own rm) {pc} (pc' : Nat) (ci q0 k0 : Nat) {Cn : String} {T : u_T} {N a index : Nat} {fs : List Value} {v : Value} (hin : ∀ w ∈ u_ws Cn T N, w ∈ GW) (hc : vwCl[ci]? = some (Cn, T, N)) (he : w[q0]? = some (a, .inr (ci, fs))) (hk : k0 < N) (hlink : Cond.fieldLink own index (T k0).1 (T k0).2.1 (T k0).2.2.1 ∈ GW) (hv : fs[k0]? = some v) (hd : decode cc pc = .ok (.getfield index, 3)) (hp : pc + 3 = pc') (kk : G L Γ k n w pc' lv (v :: st)) : G L Γ k n w pc lv (.ref a :: st) := by
  obtain ⟨p, e, R, s, m, args, below, meth, c, A, Q, nL⟩ := Γ
  obtain ⟨hx, hb, hml, hown, hts, hNW, hlk, hK, hR, hA⟩ := C
  intro H locs ls hP hD hS hl
  subst hp
  exact va_get hx hb hts hin hown hK hP q0 he hc k0 hk (hts _ hlink) (fun _ h => h) hv hd (kk H locs ls hP hD hS hl)
theorem g_put {L : LL} {Γ : GC} {k n : Nat} {w : va_W} {lv : List (Nat × Value)} {st : List Value} {cc : ByteArray} {own : String} {rm : Room} (C : Cx L Γ cc own rm) {pc} (pc' : Nat) (ci q0 k0 : Nat) {Cn : String} {T : u_T} {N a index : Nat} {fs : List Value} {v : Value} {w' : va_W} (hin : ∀ w ∈ u_ws Cn T N, w ∈ GW) (ty0 : Nat → FieldType) (hty : ∀ k, k < N → parseFieldDescriptor (T k).2.2.1 = some (ty0 k)) (hnm : ∀ a, a < N → ∀ b, b < N → a ≠ b → (T a).2.1 ≠ (T b).2.1) (hc : vwCl[ci]? = some (Cn, T, N)) (he : w[q0]? = some (a, .inr (ci, fs))) (hk : k0 < N) (hlink : Cond.fieldLink own index (T k0).1 (T k0).2.1 (T k0).2.2.1 ∈ GW) (hfin : (T k0).2.2.2 = false) (hn : narrow (ty0 k0) v = v) (hfit : fits (ty0 k0) v = true) (hlen : k0 < fs.length) (hd : decode cc pc = .ok (.putfield index, 3)) (hp : pc + 3 = pc') (hw : w.set q0 (a, .inr (ci, fs.set k0 v)) = w') (kk : G L Γ k n w' pc' lv st) : G L Γ k n w pc lv (v :: .ref a :: st) := by
  obtain ⟨p, e, R, s, m, args, below, meth, c, A, Q, nL⟩ := Γ
  obtain ⟨hx, hb, hml, hown, hts, hNW, hlk, hK, hR, hA⟩ := C
  intro H locs ls hP hD hS hl
  subst hp
  subst hw
  exact va_put hx hb hts hin ty0 hty hnm hown hK hP hD hS q0 he hc k0 hk (hts _ hlink) (fun _ h => h) hfin (hty k0 hk) hn hfit hlen hd (fun H1 locs1 hP1 hD1 hS1 => kk H1 locs1 ls hP1 hD1 hS1 hl)
def remX : Nat := 0
def inb (i : Int32) (n : Nat) : Bool := decide (¬ (i < 0 ∨ n ≤ i.toNatClampNeg))
theorem inb_in {i : Int32} {n : Nat} (h : inb i n = true) : vp_in i n := by
  have h1 : ¬ (i < 0 ∨ n ≤ i.toNatClampNeg) := of_decide_eq_true h
  exact h1
theorem ne_toInt {x y : Int32} {k : Int} (h : ¬ x = y) (hk : y.toInt = k) : ¬ x.toInt = k := fun q => h (Int32.toInt_inj.mp (q.trans hk.symm))
def isB (x : Int32) : Bool := x == 0 || x == 1
theorem isB_or {x : Int32} (h : isB x = true) : x = 0 ∨ x = 1 := by
  unfold isB at h
  rw [Bool.or_eq_true] at h
  exact h.imp (fun q => beq_iff_eq.mp q) (fun q => beq_iff_eq.mp q)
theorem isB_nar {x : Int32} (h : isB x = true) : narrow .boolean (.int x) = .int x := by
  rcases isB_or h with rfl | rfl <;> decide +kernel
theorem isB_fit {x : Int32} (h : isB x = true) : fits .boolean (.int x) = true := by
  rcases isB_or h with rfl | rfl <;> decide +kernel
theorem g_iald {L : LL} {Γ : GC} {k n : Nat} {w : va_W} {lv : List (Nat × Value)} {st : List Value} {cc : ByteArray} {own : String} {rm : Room} (C : Cx L Γ cc own rm) {pc} (pc' : Nat) (q0 : Nat) {a N : Nat} {f : Nat → Int32} {i : Int32} (ha : w[q0]? = some (a, .inl (L.2.2, N, .inl f))) (hi : inb i N = true) (hd : decode cc pc = .ok (.iaload, 1)) (hp : pc + 1 = pc') (kk : G L Γ k n w pc' lv (.int (f i.toNatClampNeg) :: st)) : G L Γ k n w pc lv (.int i :: .ref a :: st) := by
  obtain ⟨p, e, R, s, m, args, below, meth, c, A, Q, nL⟩ := Γ
  obtain ⟨hx, hb, hml, hown, hts, hNW, hlk, hK, hR, hA⟩ := C
  intro H locs ls hP hD hS hl
  subst hp
  exact va_iald hx hb hK hP q0 0 ha rfl (inb_in hi) hd (kk H locs ls hP hD hS hl)
theorem g_iast {L : LL} {Γ : GC} {k n : Nat} {w : va_W} {lv : List (Nat × Value)} {st : List Value} {cc : ByteArray} {own : String} {rm : Room} (C : Cx L Γ cc own rm) {pc} (pc' : Nat) (q0 : Nat) {a N : Nat} {f : Nat → Int32} {i x : Int32} {w' : va_W} (ha : w[q0]? = some (a, .inl (L.2.2, N, .inl f))) (hi : inb i N = true) (hd : decode cc pc = .ok (.iastore, 1)) (hp : pc + 1 = pc') (hw : w.set q0 (a, .inl (L.2.2, N, .inl (upd f i.toNatClampNeg x))) = w') (kk : G L Γ k n w' pc' lv st) : G L Γ k n w pc lv (.int x :: .int i :: .ref a :: st) := by
  obtain ⟨p, e, R, s, m, args, below, meth, c, A, Q, nL⟩ := Γ
  obtain ⟨hx, hb, hml, hown, hts, hNW, hlk, hK, hR, hA⟩ := C
  intro H locs ls hP hD hS hl
  subst hp
  subst hw
  exact va_iast hx hb hK hP hD hS q0 0 ha rfl (inb_in hi) hd (fun H1 locs1 hP1 hD1 hS1 => kk H1 locs1 ls hP1 hD1 hS1 hl)
theorem g_alen {L : LL} {Γ : GC} {k n : Nat} {w : va_W} {lv : List (Nat × Value)} {st : List Value} {cc : ByteArray} {own : String} {rm : Room} (C : Cx L Γ cc own rm) {pc} (pc' : Nat) (q0 : Nat) {a N : Nat} {f : Nat → Int32} (ha : w[q0]? = some (a, .inl (L.2.2, N, .inl f))) (hd : decode cc pc = .ok (.arraylength, 1)) (hp : pc + 1 = pc') (kk : G L Γ k n w pc' lv (.int (nI N) :: st)) : G L Γ k n w pc lv (.ref a :: st) := by
  obtain ⟨p, e, R, s, m, args, below, meth, c, A, Q, nL⟩ := Γ
  obtain ⟨hx, hb, hml, hown, hts, hNW, hlk, hK, hR, hA⟩ := C
  intro H locs ls hP hD hS hl
  subst hp
  exact va_alen hx hb hK hP q0 0 ha rfl rfl hd (kk H locs ls hP hD hS hl)
theorem g_iret {L : LL} {Γ : GC} {k n : Nat} {w : va_W} {lv : List (Nat × Value)} {st : List Value} {cc : ByteArray} {own : String} {rm : Room} {Pw : Option Value → va_W → Prop} (C : Cx L Γ cc own rm) (E : Rt L Γ (some .int) k n Pw) {pc : Nat} {v : Int32} (hd : decode cc pc = .ok (.ireturn, 1)) (hq : Pw (some (.int v)) w) : G L Γ k n w pc lv [.int v] := by
  obtain ⟨p, e, R, s, m, args, below, meth, c, A, Q, nL⟩ := Γ
  obtain ⟨hx, hb, hml, hown, hts, hNW, hlk, hK, hR, hA⟩ := C
  intro H locs ls hP hD hS hl
  obtain ⟨hr, w0, rfl, rfl⟩ := E
  exact W.iret hx hb hr (fun t ht _ => ⟨⟨_, w, hq, rfl, by rw [ht]; exact hP, hD⟩, hS.F ht⟩) hS.2.2 hd hlk
theorem g_zret {L : LL} {Γ : GC} {k n : Nat} {w : va_W} {lv : List (Nat × Value)} {st : List Value} {cc : ByteArray} {own : String} {rm : Room} {Pw : Option Value → va_W → Prop} (C : Cx L Γ cc own rm) (E : Rt L Γ (some .boolean) k n Pw) {pc : Nat} {v : Int32} (hd : decode cc pc = .ok (.ireturn, 1)) (hv : isB v = true) (hq : Pw (some (.int v)) w) : G L Γ k n w pc lv [.int v] := by
  obtain ⟨p, e, R, s, m, args, below, meth, c, A, Q, nL⟩ := Γ
  obtain ⟨hx, hb, hml, hown, hts, hNW, hlk, hK, hR, hA⟩ := C
  intro H locs ls hP hD hS hl
  obtain ⟨hr, w0, rfl, rfl⟩ := E
  exact W.zret hx hb hr (isB_nar hv) (fun t ht _ => ⟨⟨_, w, hq, rfl, by rw [ht]; exact hP, hD⟩, hS.F ht⟩) hS.2.2 hd hlk
theorem g_lret {L : LL} {Γ : GC} {k n : Nat} {w : va_W} {lv : List (Nat × Value)} {st : List Value} {cc : ByteArray} {own : String} {rm : Room} {Pw : Option Value → va_W → Prop} (C : Cx L Γ cc own rm) (E : Rt L Γ (some .long) k n Pw) {pc : Nat} {v : Int64} (hd : decode cc pc = .ok (.lreturn, 1)) (hq : Pw (some (.long v)) w) : G L Γ k n w pc lv [.long v] := by
  obtain ⟨p, e, R, s, m, args, below, meth, c, A, Q, nL⟩ := Γ
  obtain ⟨hx, hb, hml, hown, hts, hNW, hlk, hK, hR, hA⟩ := C
  intro H locs ls hP hD hS hl
  obtain ⟨hr, w0, rfl, rfl⟩ := E
  exact W.lret hx hb hr (fun t ht _ => ⟨⟨_, w, hq, rfl, by rw [ht]; exact hP, hD⟩, hS.F ht⟩) hS.2.2 hd hlk
theorem g_vret {L : LL} {Γ : GC} {k n : Nat} {w : va_W} {lv : List (Nat × Value)} {st : List Value} {cc : ByteArray} {own : String} {rm : Room} {Pw : Option Value → va_W → Prop} (C : Cx L Γ cc own rm) (E : Rt L Γ none k n Pw) {pc : Nat} (hd : decode cc pc = .ok (.return_, 1)) (hq : Pw none w) : G L Γ k n w pc lv [] := by
  obtain ⟨p, e, R, s, m, args, below, meth, c, A, Q, nL⟩ := Γ
  obtain ⟨hx, hb, hml, hown, hts, hNW, hlk, hK, hR, hA⟩ := C
  intro H locs ls hP hD hS hl
  obtain ⟨hr, w0, rfl, rfl⟩ := E
  exact W.vret hx hb hr (fun t ht _ => ⟨⟨_, w, hq, rfl, by rw [ht]; exact hP, hD⟩, hS.F ht⟩) hS.2.2 hd hlk
theorem ct_blind {L : LL} {av : List Value} {w : va_W} {sz : Nat} : FrameBlind (va_Pc av (fun U => U.heap.size = sz ∧ va_P L.2.1 vwCl w U.heap ∧ va_K L.2.1 vwCl [(L.2.2, .int)] U ∧ NW U ∧ va_D (fun _ => True) w)) := fun a U g mk q => by
  obtain ⟨q0, q1, qP, qK, qN, qD⟩ := q
  exact ⟨q0, q1, qP, va_K.moved (u := U) (U := U.calling g mk a) (Vm.Alike.refl U.vm) qK, fun z hz => va_Nw.same (u := U) (U := U.calling g mk a) rfl rfl (qN z hz), qD⟩
def putAt : va_W → List Nat → va_W → va_W
  | w, i :: is, x :: xs => putAt (w.set i x) is xs
  | w, [], _ => w
  | w, _ :: _, [] => w
theorem putAt_get : ∀ (is : List Nat) (xs w : va_W) (j : Nat) (q : Nat × va_E), is.length = xs.length → (putAt w is xs)[j]? = some q → (∃ i : Nat, is[i]? = some j ∧ xs[i]? = some q) ∨ (j ∉ is ∧ w[j]? = some q)
  | [], xs, w, j, q, _, h => Or.inr ⟨List.not_mem_nil, by cases xs <;> exact h⟩
  | i :: is, [], w, j, q, hl, h => by simp at hl
  | i :: is, x :: xs, w, j, q, hl, h => by
    rcases putAt_get is xs (w.set i x) j q (by simpa using hl) h with ⟨i', h1, h2⟩ | ⟨h1, h2⟩
    · exact Or.inl ⟨i' + 1, by simpa using h1, by simpa using h2⟩
    · by_cases hj : i = j
      · subst hj
        rw [List.getElem?_set] at h2
        split at h2
        · split at h2
          · exact Or.inl ⟨0, rfl, by simpa using h2⟩
          · cases h2
        · rename_i h3
          exact absurd rfl h3
      · rw [List.getElem?_set_ne hj] at h2
        exact Or.inr ⟨fun h3 => by rcases List.mem_cons.mp h3 with h4 | h4; exact hj h4.symm; exact h1 h4, h2⟩
theorem at_pl {w wc : va_W} {is : List Nat} (hC : is.map (fun i => w[i]?) = wc.map some) {k : Nat} {q : Nat × va_E} (h : wc[k]? = some q) : ∃ i : Nat, is[k]? = some i ∧ w[i]? = some q := by
  have h1 : (is.map (fun i => w[i]?))[k]? = some (some q) := by rw [hC, List.getElem?_map, h]; rfl
  rw [List.getElem?_map] at h1
  cases hi : is[k]? with
  | none => rw [hi] at h1; cases h1
  | some i => rw [hi] at h1; exact ⟨i, rfl, Option.some.inj h1⟩
theorem pl_at {w wc : va_W} {is : List Nat} (hC : is.map (fun i => w[i]?) = wc.map some) {k i : Nat} (h : is[k]? = some i) : ∃ q, wc[k]? = some q ∧ w[i]? = some q := by
  have h1 : (wc.map some)[k]? = some (w[i]?) := by rw [← hC, List.getElem?_map, h]; rfl
  rw [List.getElem?_map] at h1
  cases hi : wc[k]? with
  | none => rw [hi] at h1; cases h1
  | some q => rw [hi] at h1; exact ⟨q, rfl, (Option.some.inj h1).symm⟩
theorem put_world {L : LL} {A : Nat → Prop} {w wc w1 : va_W} {H H1 : Heap} {is : List Nat} (hP : va_P L.2.1 vwCl w H) (hD : va_D A w) (hC : is.map (fun i => w[i]?) = wc.map some) (hf : w1.map Prod.fst = wc.map Prod.fst) (hk : ∀ q : Nat, q < H.size → ¬ va_A wc H.size q → H1[q]? = H[q]?) (hP1 : va_P L.2.1 vwCl w1 H1) : va_P L.2.1 vwCl (putAt w is w1) H1 ∧ va_D A (putAt w is w1) := by
  have hl : is.length = w1.length := by
    have h1 := congrArg List.length hC
    have h2 := congrArg List.length hf
    simp only [List.length_map] at h1 h2
    omega
  have hfst : ∀ (j : Nat) (q : Nat × va_E), (putAt w is w1)[j]? = some q → ∃ q0, w[j]? = some q0 ∧ q0.1 = q.1 := by
    intro j q hq
    rcases putAt_get is w1 w j q hl hq with ⟨i, h1, h2⟩ | ⟨h1, h2⟩
    · obtain ⟨q0, h3, h4⟩ := pl_at hC h1
      refine ⟨q0, h4, ?_⟩
      have h5 : (w1.map Prod.fst)[i]? = (wc.map Prod.fst)[i]? := by rw [hf]
      rw [List.getElem?_map, List.getElem?_map, h2, h3] at h5
      exact (Option.some.inj h5).symm
    · exact ⟨q, h2, rfl⟩
  refine ⟨fun j q hq => ?_, fun i j p q hp hq hpq => ?_, fun j q hq => ?_⟩
  · rcases putAt_get is w1 w j q hl hq with ⟨i, h1, h2⟩ | ⟨h1, h2⟩
    · exact hP1 i q h2
    · have hlt := (hP j q h2).lt
      refine (hP j q h2).kept (hk q.1 hlt fun h3 => ?_)
      rcases h3 with ⟨k, e, h4⟩ | h4
      · obtain ⟨i, h5, h6⟩ := at_pl hC h4
        have h7 := hD.1 i j (q.1, e) q h6 h2 rfl
        subst h7
        exact h1 (List.mem_of_getElem? h5)
      · omega
  · obtain ⟨p0, h1, h2⟩ := hfst i p hp
    obtain ⟨q0, h3, h4⟩ := hfst j q hq
    exact hD.1 i j p0 q0 h1 h3 (by rw [h2, h4]; exact hpq)
  · obtain ⟨q0, h3, h4⟩ := hfst j q hq
    rw [← h4]
    exact hD.2 j q0 h3
theorem keep_world {L : LL} {A : Nat → Prop} {w wc : va_W} {H H1 : Heap} {is : List Nat} (hP : va_P L.2.1 vwCl w H) (hD : va_D A w) (hC : is.map (fun i => w[i]?) = wc.map some) (hk : ∀ q : Nat, q < H.size → ¬ va_A wc H.size q → H1[q]? = H[q]?) (hP1 : va_P L.2.1 vwCl wc H1) : va_P L.2.1 vwCl w H1 := by
  intro j q hq
  by_cases h : ∃ (k : Nat) (e : va_E), wc[k]? = some (q.1, e)
  · obtain ⟨k, e, h4⟩ := h
    obtain ⟨i, h5, h6⟩ := at_pl hC h4
    have h7 := hD.1 i j (q.1, e) q h6 hq rfl
    subst h7
    rw [hq] at h6
    rw [← Option.some.inj h6] at h4
    exact hP1 k q h4
  · have hlt := (hP j q hq).lt
    refine (hP j q hq).kept (hk q.1 hlt fun h3 => ?_)
    rcases h3 with h4 | h4
    · exact h h4
    · omega
theorem g_run {L : LL} {p : Program} {e : Env} {R : Room} {s : State} {m : MethodId} {args : Array Value} {below : List Frame} {meth : Method} {c : Code} {H : Heap} {locs : List Loc} {cells slots mc ms : Nat} {Q : State → Prop} {pc : Nat} {ls : Array Slot} {rest st0 : List Value} {a : Array Value} {A0 : Nat → Prop} {H0 : Heap} {wc : va_W} {Pw : Option Value → va_W → Prop}
    (hr : va_Run p L.1 e R s m args below meth c H locs cells slots mc ms (F0 m pc ls st0) rest (QC L wc H.size Pw a) (va_A wc H.size)) (hS : va_S A0 H0 H locs) (hA : ∀ q, va_A wc H.size q → A0 q)
    (kk : ∀ (rv : Option Value) (w1 : va_W) (H1 : Heap) (locs1 : List Loc), Pw rv w1 → va_P L.2.1 vwCl w1 H1 → va_D (va_A wc H.size) w1 → (∀ q : Nat, q < H.size → ¬ va_A wc H.size q → H1[q]? = H[q]?) → va_S A0 H0 H1 locs1 → W p L.1 e R s m args below meth c H1 locs1 (cells + mc) (slots + ms) Q (F0 m (pc + 3) ls (rv.toList ++ rest))) : W p L.1 e R s m args below meth c H locs cells slots Q (F0 m pc ls st0) := by
  intro T hT X
  obtain ⟨v, st₀, t, T', L', h0, X', hL, e1, e2, ⟨⟨rv, w1, hp, hv, hP1, hD1⟩, hz, hk⟩, st⟩ := hr T hT X
  cases hv
  rw [h0] at hz hk
  obtain ⟨t2, a1, b1⟩ := kk v w1 T'.heap (locs ++ L') hp (by rw [e1]; exact hP1) hD1 (fun q h1 h2 => by rw [e1]; exact hk q h1 h2)
    ⟨Nat.le_trans hS.1 (by rw [e1]; exact hz), fun q h1 h2 => by rw [e1, hk q (Nat.lt_of_lt_of_le h1 hS.1) (fun z => h2 (hA q z))]; exact hS.2.1 q h1 h2, fun q hq => by
      rcases List.mem_append.mp hq with h | h
      · exact hS.2.2 q h
      · exact hA _ (hL q h)⟩ T' rfl X'
  exact ⟨t2, st t2 a1, b1⟩
theorem lv_roomS {m : MethodId} {pc : Nat} {ls : Array Slot} {st rest : List Value} (h : (rest.map fun v => v.category).sum ≤ 8) : 2 * (F0 m pc ls st).monitorRoom + (rest.map fun v => v.category).sum ≤ 8 := by
  show 2 * 0 + _ ≤ 8
  omega
theorem g_callVr {L : LL} {Γ : GC} {k n : Nat} {w : va_W} {lv : List (Nat × Value)} {cc : ByteArray} {own : String} {rm : Room} {y : MethodName} {bytes : ByteArray} {maxL np index f1 l1 : Nat} {ret : Option FieldType} {As : List Value} {wc : va_W} {b : Nat} {Cn : String} {T : u_T} {N : Nat} {fs : List Value} {rv : Option Value} (C : Cx L Γ cc own rm) {pc} (pc' : Nat) (rest st' : List Value) {st : List Value} (ct : Ct L y bytes maxL ret (rmk f1 0 0 l1) 0 0 (.ref b :: As) wc (Pv rv wc)) (kf : KF y bytes maxL ret np) (kv : KV y) (hl : Cond.methodLink own index y ∈ GW) (ci q0 : Nat) (hcn : y.cls = Cn) (hc : vwCl[ci]? = some (Cn, T, N)) (he : wc[q0]? = some (b, .inr (ci, fs))) (is : List Nat) (hC : is.map (fun i => w[i]?) = wc.map some) (hnd : va_nd is = true) (hlen : As.length = np) (hst : st = As.reverse ++ .ref b :: rest) (hst' : rv.toList ++ rest = st') (hW : (rest.map fun v => v.category).sum ≤ 8) (hR : f1 + 1 ≤ rm.frames ∧ 8 + (maxL + 11) + l1 ≤ rm.locals) (hf : k ≤ rm.cells ∧ n ≤ rm.slots) (hd : decode cc pc = .ok (.invokevirtual index, 3)) (hp : pc + 3 = pc') (kk : G L Γ k n w pc' lv st') : G L Γ k n w pc lv st := by
  obtain ⟨p, e, R, s, m, args, below, meth, c, A, Q, nL⟩ := Γ
  obtain ⟨hx, hb, hml, hown, hts, hNW, hlk, hK, hR0, hA⟩ := C
  intro H locs ls hP hD hS hlv
  subst hp
  subst hst
  subst hst'
  subst hR0
  obtain ⟨-, hy2, hnp, hcode, hini⟩ := kf
  have hPc : va_P L.2.1 vwCl wc H := fun k0 q h => by
    obtain ⟨i, -, h2⟩ := at_pl hC h
    exact hP i q h2
  have hFc : ∀ q, va_A wc H.size q → A q := va_free hD hS hA is hC
  have hDc : va_D (fun _ => True) wc := (hD.sub is hnd hC).weaken (fun _ _ _ _ => trivial)
  have hws : ∀ w ∈ (Cond.code y bytes maxL ret :: GW), ∀ (a' : Array Value) (U : State), s.WarmedH U.vm → w.before a' U = true := gw_pay hts hcode
  have hpar : ∀ sig, parseMethodDescriptor y.desc = some sig → np = sig.parameters.length := fun sig h => by
    rw [h] at hnp
    exact (Option.some.inj hnp).symm
  have hpre : ∀ U : State, U.heap = H → s.WarmedH U.vm → (U.heap.size = H.size ∧ va_P L.2.1 vwCl wc U.heap ∧ va_K L.2.1 vwCl [(L.2.2, .int)] U ∧ NW U ∧ va_D (fun _ => True) wc) := fun U hU hWm => ⟨by rw [hU], by rw [hU]; exact hPc, va_K.moved hWm.alike hK, NW_warm hWm hNW, hDc⟩
  subst hcn
  have cw : CallW R s args own y.cls index y bytes maxL ret (Cond.code y bytes maxL ret :: GW) (rmk f1 0 0 l1) 0 0 np := ⟨⟨rfl, rfl, hR.1, hR.2, hws, List.mem_cons_self, hts _ hcode, hts _ hini, hy2, hpar, hts _ hl⟩, hts _ kv.1, hts _ kv.2⟩
  refine g_run (va_runV (As := As) (rest := rest) (cc := cc) (nL := nL) (Ts := GW) ⟨hx, hb, hml, hown, hts⟩ (ct H.size) cw ⟨ct_blind, va_recv hK hPc hc he, fun U hU hWm => ⟨rfl, hpre U hU hWm⟩⟩ rfl hlen hlv.1 rfl (lv_roomS hW) hd hf) hS hFc (fun rv w1 H1 locs1 hpw hP1 hD1 hk1 hS1 => ?_)
  obtain ⟨rfl, rfl⟩ := hpw
  exact kk H1 locs1 ls (keep_world hP hD hC hk1 hP1) hD hS1 hlv
theorem g_callVw {L : LL} {Γ : GC} {k n : Nat} {w : va_W} {lv : List (Nat × Value)} {cc : ByteArray} {own : String} {rm : Room} {y : MethodName} {bytes : ByteArray} {maxL np index f1 l1 : Nat} {ret : Option FieldType} {As : List Value} {wc : va_W} {b : Nat} {Cn : String} {T : u_T} {N : Nat} {fs : List Value} {rv : Option Value} {wc' w' : va_W} (C : Cx L Γ cc own rm) {pc} (pc' : Nat) (rest st' : List Value) {st : List Value} (ct : Ct L y bytes maxL ret (rmk f1 0 0 l1) 0 0 (.ref b :: As) wc (Pv rv wc')) (kf : KF y bytes maxL ret np) (kv : KV y) (hl : Cond.methodLink own index y ∈ GW) (ci q0 : Nat) (hcn : y.cls = Cn) (hc : vwCl[ci]? = some (Cn, T, N)) (he : wc[q0]? = some (b, .inr (ci, fs))) (is : List Nat) (hC : is.map (fun i => w[i]?) = wc.map some) (hnd : va_nd is = true) (hfs : wc'.map Prod.fst = wc.map Prod.fst) (hw' : putAt w is wc' = w') (hlen : As.length = np) (hst : st = As.reverse ++ .ref b :: rest) (hst' : rv.toList ++ rest = st') (hW : (rest.map fun v => v.category).sum ≤ 8) (hR : f1 + 1 ≤ rm.frames ∧ 8 + (maxL + 11) + l1 ≤ rm.locals) (hf : k ≤ rm.cells ∧ n ≤ rm.slots) (hd : decode cc pc = .ok (.invokevirtual index, 3)) (hp : pc + 3 = pc') (kk : G L Γ k n w' pc' lv st') : G L Γ k n w pc lv st := by
  obtain ⟨p, e, R, s, m, args, below, meth, c, A, Q, nL⟩ := Γ
  obtain ⟨hx, hb, hml, hown, hts, hNW, hlk, hK, hR0, hA⟩ := C
  intro H locs ls hP hD hS hlv
  subst hp
  subst hst
  subst hst'
  subst hR0
  obtain ⟨-, hy2, hnp, hcode, hini⟩ := kf
  have hPc : va_P L.2.1 vwCl wc H := fun k0 q h => by
    obtain ⟨i, -, h2⟩ := at_pl hC h
    exact hP i q h2
  have hFc : ∀ q, va_A wc H.size q → A q := va_free hD hS hA is hC
  have hDc : va_D (fun _ => True) wc := (hD.sub is hnd hC).weaken (fun _ _ _ _ => trivial)
  have hws : ∀ w ∈ (Cond.code y bytes maxL ret :: GW), ∀ (a' : Array Value) (U : State), s.WarmedH U.vm → w.before a' U = true := gw_pay hts hcode
  have hpar : ∀ sig, parseMethodDescriptor y.desc = some sig → np = sig.parameters.length := fun sig h => by
    rw [h] at hnp
    exact (Option.some.inj hnp).symm
  have hpre : ∀ U : State, U.heap = H → s.WarmedH U.vm → (U.heap.size = H.size ∧ va_P L.2.1 vwCl wc U.heap ∧ va_K L.2.1 vwCl [(L.2.2, .int)] U ∧ NW U ∧ va_D (fun _ => True) wc) := fun U hU hWm => ⟨by rw [hU], by rw [hU]; exact hPc, va_K.moved hWm.alike hK, NW_warm hWm hNW, hDc⟩
  subst hcn
  have cw : CallW R s args own y.cls index y bytes maxL ret (Cond.code y bytes maxL ret :: GW) (rmk f1 0 0 l1) 0 0 np := ⟨⟨rfl, rfl, hR.1, hR.2, hws, List.mem_cons_self, hts _ hcode, hts _ hini, hy2, hpar, hts _ hl⟩, hts _ kv.1, hts _ kv.2⟩
  refine g_run (va_runV (As := As) (rest := rest) (cc := cc) (nL := nL) (Ts := GW) ⟨hx, hb, hml, hown, hts⟩ (ct H.size) cw ⟨ct_blind, va_recv hK hPc hc he, fun U hU hWm => ⟨rfl, hpre U hU hWm⟩⟩ rfl hlen hlv.1 rfl (lv_roomS hW) hd hf) hS hFc (fun rv w1 H1 locs1 hpw hP1 hD1 hk1 hS1 => ?_)
  obtain ⟨rfl, rfl⟩ := hpw
  subst hw'
  obtain ⟨hP2, hD2⟩ := put_world (is := is) hP hD hC hfs hk1 hP1
  exact kk H1 locs1 ls hP2 hD2 hS1 hlv
theorem g_callSr {L : LL} {Γ : GC} {k n : Nat} {w : va_W} {lv : List (Nat × Value)} {cc : ByteArray} {own : String} {rm : Room} {y : MethodName} {bytes : ByteArray} {maxL np index f1 l1 : Nat} {ret : Option FieldType} {As : List Value} {wc : va_W}  {rv : Option Value} (C : Cx L Γ cc own rm) {pc} (pc' : Nat) (rest st' : List Value) {st : List Value} (ct : Ct L y bytes maxL ret (rmk f1 0 0 l1) 0 0 (As) wc (Pv rv wc)) (kf : KF y bytes maxL ret np) (kv : Cond.static y ∈ GW) (hl : Cond.methodLink own index y ∈ GW)  (is : List Nat) (hC : is.map (fun i => w[i]?) = wc.map some) (hnd : va_nd is = true) (hlen : As.length = np) (hst : st = As.reverse ++ rest) (hst' : rv.toList ++ rest = st') (hW : (rest.map fun v => v.category).sum ≤ 8) (hR : f1 + 1 ≤ rm.frames ∧ 8 + (maxL + 11) + l1 ≤ rm.locals) (hf : k ≤ rm.cells ∧ n ≤ rm.slots) (hd : decode cc pc = .ok (.invokestatic index, 3)) (hp : pc + 3 = pc') (kk : G L Γ k n w pc' lv st') : G L Γ k n w pc lv st := by
  obtain ⟨p, e, R, s, m, args, below, meth, c, A, Q, nL⟩ := Γ
  obtain ⟨hx, hb, hml, hown, hts, hNW, hlk, hK, hR0, hA⟩ := C
  intro H locs ls hP hD hS hlv
  subst hp
  subst hst
  subst hst'
  subst hR0
  obtain ⟨-, hy2, hnp, hcode, hini⟩ := kf
  have hPc : va_P L.2.1 vwCl wc H := fun k0 q h => by
    obtain ⟨i, -, h2⟩ := at_pl hC h
    exact hP i q h2
  have hFc : ∀ q, va_A wc H.size q → A q := va_free hD hS hA is hC
  have hDc : va_D (fun _ => True) wc := (hD.sub is hnd hC).weaken (fun _ _ _ _ => trivial)
  have hws : ∀ w ∈ (Cond.code y bytes maxL ret :: GW), ∀ (a' : Array Value) (U : State), s.WarmedH U.vm → w.before a' U = true := gw_pay hts hcode
  have hpar : ∀ sig, parseMethodDescriptor y.desc = some sig → np = sig.parameters.length := fun sig h => by
    rw [h] at hnp
    exact (Option.some.inj hnp).symm
  have hpre : ∀ U : State, U.heap = H → s.WarmedH U.vm → (U.heap.size = H.size ∧ va_P L.2.1 vwCl wc U.heap ∧ va_K L.2.1 vwCl [(L.2.2, .int)] U ∧ NW U ∧ va_D (fun _ => True) wc) := fun U hU hWm => ⟨by rw [hU], by rw [hU]; exact hPc, va_K.moved hWm.alike hK, NW_warm hWm hNW, hDc⟩
  refine g_run (va_runS (As := As) (rest := rest) (cc := cc) (nL := nL) (Ts := GW) (ret := ret) (bytes := bytes) (maxL := maxL) ⟨hx, hb, hml, hown, hts⟩ (ct H.size) ⟨⟨rfl, rfl, hR.1, hR.2, hws, List.mem_cons_self, hts _ hcode, hts _ hini, hy2, hpar, hts _ hl⟩, hts _ kv⟩ ⟨ct_blind, fun U hU hWm => ⟨rfl, hpre U hU hWm⟩⟩ rfl hlen hlv.1 rfl (lv_roomS hW) hd hf) hS hFc (fun rv w1 H1 locs1 hpw hP1 hD1 hk1 hS1 => ?_)
  obtain ⟨rfl, rfl⟩ := hpw
  exact kk H1 locs1 ls (keep_world hP hD hC hk1 hP1) hD hS1 hlv
theorem g_callSw {L : LL} {Γ : GC} {k n : Nat} {w : va_W} {lv : List (Nat × Value)} {cc : ByteArray} {own : String} {rm : Room} {y : MethodName} {bytes : ByteArray} {maxL np index f1 l1 : Nat} {ret : Option FieldType} {As : List Value} {wc : va_W}  {rv : Option Value} {wc' w' : va_W} (C : Cx L Γ cc own rm) {pc} (pc' : Nat) (rest st' : List Value) {st : List Value} (ct : Ct L y bytes maxL ret (rmk f1 0 0 l1) 0 0 (As) wc (Pv rv wc')) (kf : KF y bytes maxL ret np) (kv : Cond.static y ∈ GW) (hl : Cond.methodLink own index y ∈ GW)  (is : List Nat) (hC : is.map (fun i => w[i]?) = wc.map some) (hnd : va_nd is = true) (hfs : wc'.map Prod.fst = wc.map Prod.fst) (hw' : putAt w is wc' = w') (hlen : As.length = np) (hst : st = As.reverse ++ rest) (hst' : rv.toList ++ rest = st') (hW : (rest.map fun v => v.category).sum ≤ 8) (hR : f1 + 1 ≤ rm.frames ∧ 8 + (maxL + 11) + l1 ≤ rm.locals) (hf : k ≤ rm.cells ∧ n ≤ rm.slots) (hd : decode cc pc = .ok (.invokestatic index, 3)) (hp : pc + 3 = pc') (kk : G L Γ k n w' pc' lv st') : G L Γ k n w pc lv st := by
  obtain ⟨p, e, R, s, m, args, below, meth, c, A, Q, nL⟩ := Γ
  obtain ⟨hx, hb, hml, hown, hts, hNW, hlk, hK, hR0, hA⟩ := C
  intro H locs ls hP hD hS hlv
  subst hp
  subst hst
  subst hst'
  subst hR0
  obtain ⟨-, hy2, hnp, hcode, hini⟩ := kf
  have hPc : va_P L.2.1 vwCl wc H := fun k0 q h => by
    obtain ⟨i, -, h2⟩ := at_pl hC h
    exact hP i q h2
  have hFc : ∀ q, va_A wc H.size q → A q := va_free hD hS hA is hC
  have hDc : va_D (fun _ => True) wc := (hD.sub is hnd hC).weaken (fun _ _ _ _ => trivial)
  have hws : ∀ w ∈ (Cond.code y bytes maxL ret :: GW), ∀ (a' : Array Value) (U : State), s.WarmedH U.vm → w.before a' U = true := gw_pay hts hcode
  have hpar : ∀ sig, parseMethodDescriptor y.desc = some sig → np = sig.parameters.length := fun sig h => by
    rw [h] at hnp
    exact (Option.some.inj hnp).symm
  have hpre : ∀ U : State, U.heap = H → s.WarmedH U.vm → (U.heap.size = H.size ∧ va_P L.2.1 vwCl wc U.heap ∧ va_K L.2.1 vwCl [(L.2.2, .int)] U ∧ NW U ∧ va_D (fun _ => True) wc) := fun U hU hWm => ⟨by rw [hU], by rw [hU]; exact hPc, va_K.moved hWm.alike hK, NW_warm hWm hNW, hDc⟩
  refine g_run (va_runS (As := As) (rest := rest) (cc := cc) (nL := nL) (Ts := GW) (ret := ret) (bytes := bytes) (maxL := maxL) ⟨hx, hb, hml, hown, hts⟩ (ct H.size) ⟨⟨rfl, rfl, hR.1, hR.2, hws, List.mem_cons_self, hts _ hcode, hts _ hini, hy2, hpar, hts _ hl⟩, hts _ kv⟩ ⟨ct_blind, fun U hU hWm => ⟨rfl, hpre U hU hWm⟩⟩ rfl hlen hlv.1 rfl (lv_roomS hW) hd hf) hS hFc (fun rv w1 H1 locs1 hpw hP1 hD1 hk1 hS1 => ?_)
  obtain ⟨rfl, rfl⟩ := hpw
  subst hw'
  obtain ⟨hP2, hD2⟩ := put_world (is := is) hP hD hC hfs hk1 hP1
  exact kk H1 locs1 ls hP2 hD2 hS1 hlv
theorem g_callNr {L : LL} {Γ : GC} {k n : Nat} {w : va_W} {lv : List (Nat × Value)} {cc : ByteArray} {own : String} {rm : Room} {y : MethodName} {bytes : ByteArray} {maxL np index f1 l1 : Nat} {ret : Option FieldType} {As : List Value} {wc : va_W} {host : String} {rv : Option Value} (C : Cx L Γ cc own rm) {pc} (pc' : Nat) (rest st' : List Value) {st : List Value} (ct : Ct L y bytes maxL ret (rmk f1 0 0 l1) 0 0 (As) wc (Pv rv wc)) (kf : KF y bytes maxL ret np) (kv : Cond.static y ∈ GW) (hl : (own, index, y, host) ∈ nwL)  (is : List Nat) (hC : is.map (fun i => w[i]?) = wc.map some) (hnd : va_nd is = true) (hlen : As.length = np) (hst : st = As.reverse ++ rest) (hst' : rv.toList ++ rest = st') (hW : (rest.map fun v => v.category).sum ≤ 8) (hR : f1 + 1 ≤ rm.frames ∧ 8 + (maxL + 11) + l1 ≤ rm.locals) (hf : k ≤ rm.cells ∧ n ≤ rm.slots) (hd : decode cc pc = .ok (.invokestatic index, 3)) (hp : pc + 3 = pc') (kk : G L Γ k n w pc' lv st') : G L Γ k n w pc lv st := by
  obtain ⟨p, e, R, s, m, args, below, meth, c, A, Q, nL⟩ := Γ
  obtain ⟨hx, hb, hml, hown, hts, hNW, hlk, hK, hR0, hA⟩ := C
  intro H locs ls hP hD hS hlv
  subst hp
  subst hst
  subst hst'
  subst hR0
  obtain ⟨-, hy2, hnp, hcode, hini⟩ := kf
  have hPc : va_P L.2.1 vwCl wc H := fun k0 q h => by
    obtain ⟨i, -, h2⟩ := at_pl hC h
    exact hP i q h2
  have hFc : ∀ q, va_A wc H.size q → A q := va_free hD hS hA is hC
  have hDc : va_D (fun _ => True) wc := (hD.sub is hnd hC).weaken (fun _ _ _ _ => trivial)
  have hws : ∀ w ∈ (Cond.code y bytes maxL ret :: GW), ∀ (a' : Array Value) (U : State), s.WarmedH U.vm → w.before a' U = true := gw_pay hts hcode
  have hpar : ∀ sig, parseMethodDescriptor y.desc = some sig → np = sig.parameters.length := fun sig h => by
    rw [h] at hnp
    exact (Option.some.inj hnp).symm
  have hpre : ∀ U : State, U.heap = H → s.WarmedH U.vm → (U.heap.size = H.size ∧ va_P L.2.1 vwCl wc U.heap ∧ va_K L.2.1 vwCl [(L.2.2, .int)] U ∧ NW U ∧ va_D (fun _ => True) wc) := fun U hU hWm => ⟨by rw [hU], by rw [hU]; exact hPc, va_K.moved hWm.alike hK, NW_warm hWm hNW, hDc⟩
  refine g_run (va_runSN (As := As) (rest := rest) (cc := cc) (nL := nL) (Ts := GW) (ret := ret) (bytes := bytes) (maxL := maxL) (host := host) ⟨hx, hb, hml, hown, hts⟩ (ct H.size) ⟨⟨⟨rfl, rfl, hR.1, hR.2, hws, List.mem_cons_self⟩, hts _ hcode, hts _ hini, hy2, hpar, va_Nw.use rfl (hNW _ hl)⟩, hts _ kv, trivial⟩ ⟨ct_blind, fun U hU hWm => ⟨rfl, hpre U hU hWm⟩⟩ rfl hlen hlv.1 rfl (lv_roomS hW) hd hf) hS hFc (fun rv w1 H1 locs1 hpw hP1 hD1 hk1 hS1 => ?_)
  obtain ⟨rfl, rfl⟩ := hpw
  exact kk H1 locs1 ls (keep_world hP hD hC hk1 hP1) hD hS1 hlv
theorem g_callNw {L : LL} {Γ : GC} {k n : Nat} {w : va_W} {lv : List (Nat × Value)} {cc : ByteArray} {own : String} {rm : Room} {y : MethodName} {bytes : ByteArray} {maxL np index f1 l1 : Nat} {ret : Option FieldType} {As : List Value} {wc : va_W} {host : String} {rv : Option Value} {wc' w' : va_W} (C : Cx L Γ cc own rm) {pc} (pc' : Nat) (rest st' : List Value) {st : List Value} (ct : Ct L y bytes maxL ret (rmk f1 0 0 l1) 0 0 (As) wc (Pv rv wc')) (kf : KF y bytes maxL ret np) (kv : Cond.static y ∈ GW) (hl : (own, index, y, host) ∈ nwL)  (is : List Nat) (hC : is.map (fun i => w[i]?) = wc.map some) (hnd : va_nd is = true) (hfs : wc'.map Prod.fst = wc.map Prod.fst) (hw' : putAt w is wc' = w') (hlen : As.length = np) (hst : st = As.reverse ++ rest) (hst' : rv.toList ++ rest = st') (hW : (rest.map fun v => v.category).sum ≤ 8) (hR : f1 + 1 ≤ rm.frames ∧ 8 + (maxL + 11) + l1 ≤ rm.locals) (hf : k ≤ rm.cells ∧ n ≤ rm.slots) (hd : decode cc pc = .ok (.invokestatic index, 3)) (hp : pc + 3 = pc') (kk : G L Γ k n w' pc' lv st') : G L Γ k n w pc lv st := by
  obtain ⟨p, e, R, s, m, args, below, meth, c, A, Q, nL⟩ := Γ
  obtain ⟨hx, hb, hml, hown, hts, hNW, hlk, hK, hR0, hA⟩ := C
  intro H locs ls hP hD hS hlv
  subst hp
  subst hst
  subst hst'
  subst hR0
  obtain ⟨-, hy2, hnp, hcode, hini⟩ := kf
  have hPc : va_P L.2.1 vwCl wc H := fun k0 q h => by
    obtain ⟨i, -, h2⟩ := at_pl hC h
    exact hP i q h2
  have hFc : ∀ q, va_A wc H.size q → A q := va_free hD hS hA is hC
  have hDc : va_D (fun _ => True) wc := (hD.sub is hnd hC).weaken (fun _ _ _ _ => trivial)
  have hws : ∀ w ∈ (Cond.code y bytes maxL ret :: GW), ∀ (a' : Array Value) (U : State), s.WarmedH U.vm → w.before a' U = true := gw_pay hts hcode
  have hpar : ∀ sig, parseMethodDescriptor y.desc = some sig → np = sig.parameters.length := fun sig h => by
    rw [h] at hnp
    exact (Option.some.inj hnp).symm
  have hpre : ∀ U : State, U.heap = H → s.WarmedH U.vm → (U.heap.size = H.size ∧ va_P L.2.1 vwCl wc U.heap ∧ va_K L.2.1 vwCl [(L.2.2, .int)] U ∧ NW U ∧ va_D (fun _ => True) wc) := fun U hU hWm => ⟨by rw [hU], by rw [hU]; exact hPc, va_K.moved hWm.alike hK, NW_warm hWm hNW, hDc⟩
  refine g_run (va_runSN (As := As) (rest := rest) (cc := cc) (nL := nL) (Ts := GW) (ret := ret) (bytes := bytes) (maxL := maxL) (host := host) ⟨hx, hb, hml, hown, hts⟩ (ct H.size) ⟨⟨⟨rfl, rfl, hR.1, hR.2, hws, List.mem_cons_self⟩, hts _ hcode, hts _ hini, hy2, hpar, va_Nw.use rfl (hNW _ hl)⟩, hts _ kv, trivial⟩ ⟨ct_blind, fun U hU hWm => ⟨rfl, hpre U hU hWm⟩⟩ rfl hlen hlv.1 rfl (lv_roomS hW) hd hf) hS hFc (fun rv w1 H1 locs1 hpw hP1 hD1 hk1 hS1 => ?_)
  obtain ⟨rfl, rfl⟩ := hpw
  subst hw'
  obtain ⟨hP2, hD2⟩ := put_world (is := is) hP hD hC hfs hk1 hP1
  exact kk H1 locs1 ls hP2 hD2 hS1 hlv
theorem g_mmax {L : LL} {Γ : GC} {k n : Nat} {w : va_W} {lv : List (Nat × Value)} {st : List Value} {cc : ByteArray} {own : String} {rm : Room} (C : Cx L Γ cc own rm) {pc} (pc' : Nat) {index : Nat} {x y : Int32} (h1 : Cond.methodLink own index Lib.Math.max.name ∈ GW) (h2 : Cond.static Lib.Math.max.name ∈ GW) (h3 : Cond.initialized "java/lang/Math" ∈ GW) (h4 : Cond.code Lib.Math.max.name Lib.Math.max.code 2 (some .int) ∈ GW) (hR : 1 ≤ rm.frames ∧ (st.map fun v => v.category).sum + 13 ≤ rm.locals) (hf : k ≤ rm.cells ∧ n ≤ rm.slots) (hd : decode cc pc = .ok (.invokestatic index, 3)) (hp : pc + 3 = pc') (kk : G L Γ k n w pc' lv (.int (maxI x y) :: st)) : G L Γ k n w pc lv (.int y :: .int x :: st) := by
  obtain ⟨p, e, R, s, m, args, below, meth, c, A, Q, nL⟩ := Γ
  obtain ⟨hx, hb, hml, hown, hts, hNW, hlk, hK, hR0, hA⟩ := C
  intro H locs ls hP hD hS hl
  subst hp
  subst hR0
  exact va_mmax hx hb (hml.trans hl.1.symm) hown (hts _ h1) (hts _ h2) (hts _ h3) (hts _ h4) hR.1 hR.2 hf.1 hf.2 hd (kk H locs ls hP hD hS hl)
theorem g_mmin {L : LL} {Γ : GC} {k n : Nat} {w : va_W} {lv : List (Nat × Value)} {st : List Value} {cc : ByteArray} {own : String} {rm : Room} (C : Cx L Γ cc own rm) {pc} (pc' : Nat) {index : Nat} {x y : Int32} (h1 : Cond.methodLink own index Lib.Math.min.name ∈ GW) (h2 : Cond.static Lib.Math.min.name ∈ GW) (h3 : Cond.initialized "java/lang/Math" ∈ GW) (h4 : Cond.code Lib.Math.min.name Lib.Math.min.code 2 (some .int) ∈ GW) (hR : 1 ≤ rm.frames ∧ (st.map fun v => v.category).sum + 13 ≤ rm.locals) (hf : k ≤ rm.cells ∧ n ≤ rm.slots) (hd : decode cc pc = .ok (.invokestatic index, 3)) (hp : pc + 3 = pc') (kk : G L Γ k n w pc' lv (.int (minI x y) :: st)) : G L Γ k n w pc lv (.int y :: .int x :: st) := by
  obtain ⟨p, e, R, s, m, args, below, meth, c, A, Q, nL⟩ := Γ
  obtain ⟨hx, hb, hml, hown, hts, hNW, hlk, hK, hR0, hA⟩ := C
  intro H locs ls hP hD hS hl
  subst hp
  subst hR0
  exact va_mmin hx hb (hml.trans hl.1.symm) hown (hts _ h1) (hts _ h2) (hts _ h3) (hts _ h4) hR.1 hR.2 hf.1 hf.2 hd (kk H locs ls hP hD hS hl)
theorem g_mabs {L : LL} {Γ : GC} {k n : Nat} {w : va_W} {lv : List (Nat × Value)} {st : List Value} {cc : ByteArray} {own : String} {rm : Room} (C : Cx L Γ cc own rm) {pc} (pc' : Nat) {index : Nat} {x : Int32} (h1 : Cond.methodLink own index Lib.Math.abs.name ∈ GW) (h2 : Cond.static Lib.Math.abs.name ∈ GW) (h3 : Cond.initialized "java/lang/Math" ∈ GW) (h4 : Cond.code Lib.Math.abs.name Lib.Math.abs.code 1 (some .int) ∈ GW) (hR : 1 ≤ rm.frames ∧ (st.map fun v => v.category).sum + 13 ≤ rm.locals) (hf : k ≤ rm.cells ∧ n ≤ rm.slots) (hd : decode cc pc = .ok (.invokestatic index, 3)) (hp : pc + 3 = pc') (kk : G L Γ k n w pc' lv (.int (absI x) :: st)) : G L Γ k n w pc lv (.int x :: st) := by
  obtain ⟨p, e, R, s, m, args, below, meth, c, A, Q, nL⟩ := Γ
  obtain ⟨hx, hb, hml, hown, hts, hNW, hlk, hK, hR0, hA⟩ := C
  intro H locs ls hP hD hS hl
  subst hp
  subst hR0
  exact va_mabs hx hb (hml.trans hl.1.symm) hown (hts _ h1) (hts _ h2) (hts _ h3) (hts _ h4) hR.1 hR.2 hf.1 hf.2 hd (kk H locs ls hP hD hS hl)
theorem bnd {α β : Type} {o : Option α} {f : α → Option β} {r : β} {P : Prop} (h : o.bind f = some r) (k : ∀ x, o = some x → f x = some r → P) : P := by
  cases o with
  | none => cases h
  | some x => exact k x rfl h
theorem grdE {β : Type} {c : Bool} {o : Option β} {r : β} {P : Prop} (h : (if c = true then o else none) = some r) (k : c = true → o = some r → P) : P := by
  cases c with
  | false => simp at h
  | true => exact k rfl (by simpa using h)
theorem grdN {β : Type} {x : Int32} {o : Option β} {r : β} {P : Prop} (h : (if x = 0 then none else o) = some r) (k : ¬ x = 0 → o = some r → P) : P := by
  by_cases hx : x = 0
  · rw [if_pos hx] at h; cases h
  · rw [if_neg hx] at h; exact k hx h
theorem grdL {β : Type} {x : Int64} {o : Option β} {r : β} {P : Prop} (h : (if x = 0 then none else o) = some r) (k : ¬ x = 0 → o = some r → P) : P := by
  by_cases hx : x = 0
  · rw [if_pos hx] at h; cases h
  · rw [if_neg hx] at h; exact k hx h
theorem ifT {β : Type} {c : Prop} [Decidable c] {a b : Option β} {r : β} (hc : c) (h : (if c then a else b) = some r) : a = some r := by rw [if_pos hc] at h; exact h
theorem ifF {β : Type} {c : Prop} [Decidable c] {a b : Option β} {r : β} (hc : ¬ c) (h : (if c then a else b) = some r) : b = some r := by rw [if_neg hc] at h; exact h
def Lp1 {A1 ρ : Type} (body : (A1 → Option ρ) → A1 → Option ρ) : Nat → A1 → Option ρ
  | 0, _ => none
  | n + 1, a1 => body (Lp1 body n) a1
theorem lp_ok1 {A1 ρ : Type} {body : (A1 → Option ρ) → A1 → Option ρ} {r : ρ} (P : A1 → Prop) (hs : ∀ rec : A1 → Option ρ, (∀ b1, rec b1 = some r → P b1) → ∀ a1, body rec a1 = some r → P a1) : ∀ (n : Nat) (a1 : A1), Lp1 body n a1 = some r → P a1
  | 0, _, h => by cases h
  | n + 1, a1, h => hs (Lp1 body n) (fun b1 q => lp_ok1 P hs n b1 q) a1 h
def Lp2 {A1 A2 ρ : Type} (body : (A1 → A2 → Option ρ) → A1 → A2 → Option ρ) : Nat → A1 → A2 → Option ρ
  | 0, _, _ => none
  | n + 1, a1, a2 => body (Lp2 body n) a1 a2
theorem lp_ok2 {A1 A2 ρ : Type} {body : (A1 → A2 → Option ρ) → A1 → A2 → Option ρ} {r : ρ} (P : A1 → A2 → Prop) (hs : ∀ rec : A1 → A2 → Option ρ, (∀ b1 b2, rec b1 b2 = some r → P b1 b2) → ∀ a1 a2, body rec a1 a2 = some r → P a1 a2) : ∀ (n : Nat) (a1 : A1) (a2 : A2), Lp2 body n a1 a2 = some r → P a1 a2
  | 0, _, _, h => by cases h
  | n + 1, a1, a2, h => hs (Lp2 body n) (fun b1 b2 q => lp_ok2 P hs n b1 b2 q) a1 a2 h
def Lp3 {A1 A2 A3 ρ : Type} (body : (A1 → A2 → A3 → Option ρ) → A1 → A2 → A3 → Option ρ) : Nat → A1 → A2 → A3 → Option ρ
  | 0, _, _, _ => none
  | n + 1, a1, a2, a3 => body (Lp3 body n) a1 a2 a3
theorem lp_ok3 {A1 A2 A3 ρ : Type} {body : (A1 → A2 → A3 → Option ρ) → A1 → A2 → A3 → Option ρ} {r : ρ} (P : A1 → A2 → A3 → Prop) (hs : ∀ rec : A1 → A2 → A3 → Option ρ, (∀ b1 b2 b3, rec b1 b2 b3 = some r → P b1 b2 b3) → ∀ a1 a2 a3, body rec a1 a2 a3 = some r → P a1 a2 a3) : ∀ (n : Nat) (a1 : A1) (a2 : A2) (a3 : A3), Lp3 body n a1 a2 a3 = some r → P a1 a2 a3
  | 0, _, _, _, h => by cases h
  | n + 1, a1, a2, a3, h => hs (Lp3 body n) (fun b1 b2 b3 q => lp_ok3 P hs n b1 b2 b3 q) a1 a2 a3 h
def Lp4 {A1 A2 A3 A4 ρ : Type} (body : (A1 → A2 → A3 → A4 → Option ρ) → A1 → A2 → A3 → A4 → Option ρ) : Nat → A1 → A2 → A3 → A4 → Option ρ
  | 0, _, _, _, _ => none
  | n + 1, a1, a2, a3, a4 => body (Lp4 body n) a1 a2 a3 a4
theorem lp_ok4 {A1 A2 A3 A4 ρ : Type} {body : (A1 → A2 → A3 → A4 → Option ρ) → A1 → A2 → A3 → A4 → Option ρ} {r : ρ} (P : A1 → A2 → A3 → A4 → Prop) (hs : ∀ rec : A1 → A2 → A3 → A4 → Option ρ, (∀ b1 b2 b3 b4, rec b1 b2 b3 b4 = some r → P b1 b2 b3 b4) → ∀ a1 a2 a3 a4, body rec a1 a2 a3 a4 = some r → P a1 a2 a3 a4) : ∀ (n : Nat) (a1 : A1) (a2 : A2) (a3 : A3) (a4 : A4), Lp4 body n a1 a2 a3 a4 = some r → P a1 a2 a3 a4
  | 0, _, _, _, _, h => by cases h
  | n + 1, a1, a2, a3, a4, h => hs (Lp4 body n) (fun b1 b2 b3 b4 q => lp_ok4 P hs n b1 b2 b3 b4 q) a1 a2 a3 a4 h
def Lp5 {A1 A2 A3 A4 A5 ρ : Type} (body : (A1 → A2 → A3 → A4 → A5 → Option ρ) → A1 → A2 → A3 → A4 → A5 → Option ρ) : Nat → A1 → A2 → A3 → A4 → A5 → Option ρ
  | 0, _, _, _, _, _ => none
  | n + 1, a1, a2, a3, a4, a5 => body (Lp5 body n) a1 a2 a3 a4 a5
theorem lp_ok5 {A1 A2 A3 A4 A5 ρ : Type} {body : (A1 → A2 → A3 → A4 → A5 → Option ρ) → A1 → A2 → A3 → A4 → A5 → Option ρ} {r : ρ} (P : A1 → A2 → A3 → A4 → A5 → Prop) (hs : ∀ rec : A1 → A2 → A3 → A4 → A5 → Option ρ, (∀ b1 b2 b3 b4 b5, rec b1 b2 b3 b4 b5 = some r → P b1 b2 b3 b4 b5) → ∀ a1 a2 a3 a4 a5, body rec a1 a2 a3 a4 a5 = some r → P a1 a2 a3 a4 a5) : ∀ (n : Nat) (a1 : A1) (a2 : A2) (a3 : A3) (a4 : A4) (a5 : A5), Lp5 body n a1 a2 a3 a4 a5 = some r → P a1 a2 a3 a4 a5
  | 0, _, _, _, _, _, h => by cases h
  | n + 1, a1, a2, a3, a4, a5, h => hs (Lp5 body n) (fun b1 b2 b3 b4 b5 q => lp_ok5 P hs n b1 b2 b3 b4 b5 q) a1 a2 a3 a4 a5 h
def Lp6 {A1 A2 A3 A4 A5 A6 ρ : Type} (body : (A1 → A2 → A3 → A4 → A5 → A6 → Option ρ) → A1 → A2 → A3 → A4 → A5 → A6 → Option ρ) : Nat → A1 → A2 → A3 → A4 → A5 → A6 → Option ρ
  | 0, _, _, _, _, _, _ => none
  | n + 1, a1, a2, a3, a4, a5, a6 => body (Lp6 body n) a1 a2 a3 a4 a5 a6
theorem lp_ok6 {A1 A2 A3 A4 A5 A6 ρ : Type} {body : (A1 → A2 → A3 → A4 → A5 → A6 → Option ρ) → A1 → A2 → A3 → A4 → A5 → A6 → Option ρ} {r : ρ} (P : A1 → A2 → A3 → A4 → A5 → A6 → Prop) (hs : ∀ rec : A1 → A2 → A3 → A4 → A5 → A6 → Option ρ, (∀ b1 b2 b3 b4 b5 b6, rec b1 b2 b3 b4 b5 b6 = some r → P b1 b2 b3 b4 b5 b6) → ∀ a1 a2 a3 a4 a5 a6, body rec a1 a2 a3 a4 a5 a6 = some r → P a1 a2 a3 a4 a5 a6) : ∀ (n : Nat) (a1 : A1) (a2 : A2) (a3 : A3) (a4 : A4) (a5 : A5) (a6 : A6), Lp6 body n a1 a2 a3 a4 a5 a6 = some r → P a1 a2 a3 a4 a5 a6
  | 0, _, _, _, _, _, _, h => by cases h
  | n + 1, a1, a2, a3, a4, a5, a6, h => hs (Lp6 body n) (fun b1 b2 b3 b4 b5 b6 q => lp_ok6 P hs n b1 b2 b3 b4 b5 b6 q) a1 a2 a3 a4 a5 a6 h
def Lp7 {A1 A2 A3 A4 A5 A6 A7 ρ : Type} (body : (A1 → A2 → A3 → A4 → A5 → A6 → A7 → Option ρ) → A1 → A2 → A3 → A4 → A5 → A6 → A7 → Option ρ) : Nat → A1 → A2 → A3 → A4 → A5 → A6 → A7 → Option ρ
  | 0, _, _, _, _, _, _, _ => none
  | n + 1, a1, a2, a3, a4, a5, a6, a7 => body (Lp7 body n) a1 a2 a3 a4 a5 a6 a7
theorem lp_ok7 {A1 A2 A3 A4 A5 A6 A7 ρ : Type} {body : (A1 → A2 → A3 → A4 → A5 → A6 → A7 → Option ρ) → A1 → A2 → A3 → A4 → A5 → A6 → A7 → Option ρ} {r : ρ} (P : A1 → A2 → A3 → A4 → A5 → A6 → A7 → Prop) (hs : ∀ rec : A1 → A2 → A3 → A4 → A5 → A6 → A7 → Option ρ, (∀ b1 b2 b3 b4 b5 b6 b7, rec b1 b2 b3 b4 b5 b6 b7 = some r → P b1 b2 b3 b4 b5 b6 b7) → ∀ a1 a2 a3 a4 a5 a6 a7, body rec a1 a2 a3 a4 a5 a6 a7 = some r → P a1 a2 a3 a4 a5 a6 a7) : ∀ (n : Nat) (a1 : A1) (a2 : A2) (a3 : A3) (a4 : A4) (a5 : A5) (a6 : A6) (a7 : A7), Lp7 body n a1 a2 a3 a4 a5 a6 a7 = some r → P a1 a2 a3 a4 a5 a6 a7
  | 0, _, _, _, _, _, _, _, h => by cases h
  | n + 1, a1, a2, a3, a4, a5, a6, a7, h => hs (Lp7 body n) (fun b1 b2 b3 b4 b5 b6 b7 q => lp_ok7 P hs n b1 b2 b3 b4 b5 b6 b7 q) a1 a2 a3 a4 a5 a6 a7 h
def Lp8 {A1 A2 A3 A4 A5 A6 A7 A8 ρ : Type} (body : (A1 → A2 → A3 → A4 → A5 → A6 → A7 → A8 → Option ρ) → A1 → A2 → A3 → A4 → A5 → A6 → A7 → A8 → Option ρ) : Nat → A1 → A2 → A3 → A4 → A5 → A6 → A7 → A8 → Option ρ
  | 0, _, _, _, _, _, _, _, _ => none
  | n + 1, a1, a2, a3, a4, a5, a6, a7, a8 => body (Lp8 body n) a1 a2 a3 a4 a5 a6 a7 a8
theorem lp_ok8 {A1 A2 A3 A4 A5 A6 A7 A8 ρ : Type} {body : (A1 → A2 → A3 → A4 → A5 → A6 → A7 → A8 → Option ρ) → A1 → A2 → A3 → A4 → A5 → A6 → A7 → A8 → Option ρ} {r : ρ} (P : A1 → A2 → A3 → A4 → A5 → A6 → A7 → A8 → Prop) (hs : ∀ rec : A1 → A2 → A3 → A4 → A5 → A6 → A7 → A8 → Option ρ, (∀ b1 b2 b3 b4 b5 b6 b7 b8, rec b1 b2 b3 b4 b5 b6 b7 b8 = some r → P b1 b2 b3 b4 b5 b6 b7 b8) → ∀ a1 a2 a3 a4 a5 a6 a7 a8, body rec a1 a2 a3 a4 a5 a6 a7 a8 = some r → P a1 a2 a3 a4 a5 a6 a7 a8) : ∀ (n : Nat) (a1 : A1) (a2 : A2) (a3 : A3) (a4 : A4) (a5 : A5) (a6 : A6) (a7 : A7) (a8 : A8), Lp8 body n a1 a2 a3 a4 a5 a6 a7 a8 = some r → P a1 a2 a3 a4 a5 a6 a7 a8
  | 0, _, _, _, _, _, _, _, _, h => by cases h
  | n + 1, a1, a2, a3, a4, a5, a6, a7, a8, h => hs (Lp8 body n) (fun b1 b2 b3 b4 b5 b6 b7 b8 q => lp_ok8 P hs n b1 b2 b3 b4 b5 b6 b7 b8 q) a1 a2 a3 a4 a5 a6 a7 a8 h
def Lp9 {A1 A2 A3 A4 A5 A6 A7 A8 A9 ρ : Type} (body : (A1 → A2 → A3 → A4 → A5 → A6 → A7 → A8 → A9 → Option ρ) → A1 → A2 → A3 → A4 → A5 → A6 → A7 → A8 → A9 → Option ρ) : Nat → A1 → A2 → A3 → A4 → A5 → A6 → A7 → A8 → A9 → Option ρ
  | 0, _, _, _, _, _, _, _, _, _ => none
  | n + 1, a1, a2, a3, a4, a5, a6, a7, a8, a9 => body (Lp9 body n) a1 a2 a3 a4 a5 a6 a7 a8 a9
theorem lp_ok9 {A1 A2 A3 A4 A5 A6 A7 A8 A9 ρ : Type} {body : (A1 → A2 → A3 → A4 → A5 → A6 → A7 → A8 → A9 → Option ρ) → A1 → A2 → A3 → A4 → A5 → A6 → A7 → A8 → A9 → Option ρ} {r : ρ} (P : A1 → A2 → A3 → A4 → A5 → A6 → A7 → A8 → A9 → Prop) (hs : ∀ rec : A1 → A2 → A3 → A4 → A5 → A6 → A7 → A8 → A9 → Option ρ, (∀ b1 b2 b3 b4 b5 b6 b7 b8 b9, rec b1 b2 b3 b4 b5 b6 b7 b8 b9 = some r → P b1 b2 b3 b4 b5 b6 b7 b8 b9) → ∀ a1 a2 a3 a4 a5 a6 a7 a8 a9, body rec a1 a2 a3 a4 a5 a6 a7 a8 a9 = some r → P a1 a2 a3 a4 a5 a6 a7 a8 a9) : ∀ (n : Nat) (a1 : A1) (a2 : A2) (a3 : A3) (a4 : A4) (a5 : A5) (a6 : A6) (a7 : A7) (a8 : A8) (a9 : A9), Lp9 body n a1 a2 a3 a4 a5 a6 a7 a8 a9 = some r → P a1 a2 a3 a4 a5 a6 a7 a8 a9
  | 0, _, _, _, _, _, _, _, _, _, h => by cases h
  | n + 1, a1, a2, a3, a4, a5, a6, a7, a8, a9, h => hs (Lp9 body n) (fun b1 b2 b3 b4 b5 b6 b7 b8 b9 q => lp_ok9 P hs n b1 b2 b3 b4 b5 b6 b7 b8 b9 q) a1 a2 a3 a4 a5 a6 a7 a8 a9 h

def FU : Nat := 1000
abbrev OS : Type := (Nat → Int32) × (Nat → Nat → Int32)
def su (T : OS) (k : Nat) (v : Int32) : OS := (upd T.1 k v, T.2)
def upA {α : Type} (f : Nat → α) (k : Nat) (x : α) : Nat → α := fun j => if j = k then x else f j
def sa (T : OS) (k : Nat) (f : Nat → Int32) : OS := (T.1, upA T.2 k f)

