/-! THE G LAYER: a constructor begins, a constructor is called; words of the constructors -/
def Pi (P : va_W → Prop) : Option Value → va_W → Prop := fun r x => r = none ∧ P x
def S0 : OS := (fun _ => 0, fun _ _ => 0)
def T0 : OS := (fun k => if k = 3 then 8 else if k = 4 then 11 else 0, fun _ _ => 0)
def M0 : OS := (fun k => if k = 10 then 8 else if k = 11 then 11 else 0, fun _ _ => 0)
def Z0 : Nat → OS := fun k => if k = 1 then T0 else if k = 2 then T0 else if k = 3 then T0 else S0
def iP (L : LL) (c o t : Nat) : va_W → Prop := fun w => match c with
  | 0 => ∃ u : Nat → Nat, w = cells0 L o u S0
  | 1 => ∃ u : Nat → Nat, w = [(o, .inr (1, [.ref t, .ref (u 1)])), (u 1, .inl (L.2.2, 32, .inl (S0.2 1)))]
  | 2 => w = [(o, .inr (2, [.ref t]))]
  | 3 => w = [(o, .inr (3, [.ref t]))]
  | 4 => ∃ u : Nat → Nat, w = cells4 L o u S0
  | 5 => ∃ u : Nat → Nat, w = [(o, .inr (5, [.int (S0.1 0), .ref (u 1), .ref t])), (u 1, .inl (L.2.2, 12, .inl (S0.2 1)))]
  | 6 => ∃ u : Nat → Nat, w = cells6 L o u T0
  | 7 => ∃ (f : Nat → Nat) (q : Nat → Nat → Nat), f 0 = o ∧ w = cells7 L f q Z0
  | _ => ∃ u : Nat → Nat, w = cells8 L o u M0
theorem g_enterI {L : LL} {y : MethodName} {f k n lo : Nat} {cc : ByteArray} {maxL np : Nat} {ret : Option FieldType} {own : String} {av : List Value} {w : va_W} {Pw : Option Value → va_W → Prop} {lv : List (Nat × Value)} (kf : KF y cc maxL ret np) (hin : y.name = "<init>") (hown : y.cls = own) (hlv : lv_args 0 av = lv) (hlen : (lg_sl av).length ≤ maxL) (body : ∀ Γ : GC, Cx L Γ cc own (rmk f k n lo) → Rt L Γ ret k n Pw → gNL Γ = maxL → In Γ → G L Γ 0 0 w 0 lv []) : Ct L y cc maxL ret (rmk f k n lo) k n av w Pw := by
  intro sz
  obtain ⟨hy, -, -, -⟩ := kf
  refine Met.ofW hy rfl ?_
  intro p e s m args below meth c s₁ B hml hv
  obtain ⟨rfl, hsz, hP, hK, hN, hD0⟩ := hv
  subst hsz
  subst hown
  subst hlv
  rw [lg_entry_eq]
  have hts := atoms_spec (ws := Cond.code y cc maxL ret :: GW) B.pre
  exact body (p, e, rmk f k n lo, s, m, av.toArray, below, meth, c, va_A w s.heap.size, _, maxL) ⟨B.exec, B.bytes, hml, findClass_of_methodNamed B.named, fun w h => hts w (List.mem_cons_of_mem _ h), hN, B.notSynchronized, hK, rfl, fun q h => Or.inr h⟩ ⟨B.returns, w, rfl, rfl⟩ rfl ((name_of_methodNamed B.named B.method).1.trans hin) s.heap [] _ hP hD0.self va_S.rf (lv_entry av hlen)
theorem g_callI {L : LL} {Γ : GC} {k n : Nat} {w : va_W} {lv : List (Nat × Value)} {cc : ByteArray} {own : String} {rm : Room} {y : MethodName} {bytes : ByteArray} {maxL np index f1 mc ms l1 : Nat} {As : List Value} {wc wr : va_W} {b : Nat} {P : va_W → Prop} (C : Cx L Γ cc own rm) {pc} (pc' : Nat) (rest : List Value) {st : List Value} (ct : Ct L y bytes maxL none (rmk f1 mc ms l1) mc ms (.ref b :: As) wc (Pi P)) (kf : KF y bytes maxL none np) (hy1 : y.name = "<init>") (hi : Cond.instanceMethod y ∈ GW) (hl : Cond.methodLink own index y ∈ GW) (is ir : List Nat) (hC : is.map (fun i => w[i]?) = wc.map some) (hnd : va_nd is = true) (hCr : ir.map (fun i => w[i]?) = wr.map some) (hndr : va_nd ir = true) (hdis : ∀ i ∈ ir, i ∉ is) (hlen : As.length = np) (hst : st = As.reverse ++ .ref b :: rest) (hW : (rest.map fun v => v.category).sum ≤ 8) (hR : f1 + 1 ≤ rm.frames ∧ 8 + (maxL + 11) + l1 ≤ rm.locals) (hf : k + mc ≤ rm.cells ∧ n + ms ≤ rm.slots) (hd : decode cc pc = .ok (.invokespecial index, 3)) (hp : pc + 3 = pc') (kk : ∀ w1 : va_W, P w1 → G L Γ (k + mc) (n + ms) (wr ++ w1) pc' lv rest) : G L Γ k n w pc lv st := by
  obtain ⟨p, e, R, s, m, args, below, meth, c, A, Q, nL⟩ := Γ
  obtain ⟨hx, hb, hml, hown, hts, hNW, hlk, hK, hR0, hA⟩ := C
  intro H locs ls hP hD hS hlv
  subst hp
  subst hst
  subst hR0
  obtain ⟨-, hy2, hnp, hcode, hini⟩ := kf
  have hPc : va_P L.2.1 vwCl wc H := fun k0 q h => by
    obtain ⟨i, -, h2⟩ := at_pl hC h
    exact hP i q h2
  have hFc : ∀ q, va_A wc H.size q → A q := va_free hD hS hA is hC
  have hDc : va_D (fun _ => True) wc := (hD.sub is hnd hC).weaken (fun _ _ _ _ => trivial)
  have hws : ∀ w ∈ (Cond.code y bytes maxL none :: GW), ∀ (a' : Array Value) (U : State), s.WarmedH U.vm → w.before a' U = true := gw_pay hts hcode
  have hpar : ∀ sig, parseMethodDescriptor y.desc = some sig → np = sig.parameters.length := fun sig h => by
    rw [h] at hnp
    exact (Option.some.inj hnp).symm
  have hpre : ∀ U : State, U.heap = H → s.WarmedH U.vm → (U.heap.size = H.size ∧ va_P L.2.1 vwCl wc U.heap ∧ va_K L.2.1 vwCl [(L.2.2, .int)] U ∧ NW U ∧ va_D (fun _ => True) wc) := fun U hU hWm => ⟨by rw [hU], by rw [hU]; exact hPc, va_K.moved hWm.alike hK, NW_warm hWm hNW, hDc⟩
  have cw : CallB R s args own index y bytes maxL none (Cond.code y bytes maxL none :: GW) (rmk f1 mc ms l1) mc ms np ∧ y.name = "<init>" ∧ (Cond.instanceMethod y).before args s = true := ⟨⟨rfl, rfl, hR.1, hR.2, hws, List.mem_cons_self, hts _ hcode, hts _ hini, hy2, hpar, hts _ hl⟩, hy1, hts _ hi⟩
  refine g_run (va_runI (As := As) (rest := rest) (cc := cc) (nL := nL) (Ts := GW) ⟨hx, hb, hml, hown, hts⟩ (ct H.size) cw ⟨ct_blind, fun U hU hWm => ⟨rfl, hpre U hU hWm⟩⟩ rfl hlen hlv.1 rfl (lv_roomS hW) hd hf) hS hFc (fun rv w1 H1 locs1 hpw hP1 hD1 hk1 hS1 => ?_)
  obtain ⟨rfl, hp1⟩ := hpw
  obtain ⟨hP2, hD2⟩ := va_join (wr := wr) (w1 := w1) hP hD is ir hC hCr hndr hdis hk1 hFc hP1 hD1
  exact kk w1 hp1 H1 locs1 ls hP2 hD2 hS1 hlv
theorem wo_i : Cond.instanceMethod Lib.objectInit ∈ GW := gw_mem 87 (by decide +kernel) (by decide +kernel)
theorem wo_c : Cond.code Lib.objectInit ⟨#[0xb1]⟩ 1 none ∈ GW := gw_mem 88 (by decide +kernel) (by decide +kernel)
theorem wa_int : Cond.arrayClass .int ∈ GW := gw_mem 168 (by decide +kernel) (by decide +kernel)
theorem kX0_init : KF yX0_init cX0_init 1 none 0 := ⟨(by decide +kernel), ⟨(by decide +kernel), (by decide +kernel)⟩, (by decide +kernel), gw_mem 190 (by decide +kernel) (by decide +kernel), gw_mem 73 (by decide +kernel) (by decide +kernel)⟩
theorem wi_X0_init : Cond.instanceMethod yX0_init ∈ GW := gw_mem 189 (by decide +kernel) (by decide +kernel)
theorem wo_X0 : Cond.methodLink RX0 3 Lib.objectInit ∈ GW := gw_mem 191 (by decide +kernel) (by decide +kernel)
theorem kX1_init : KF yX1_init cX1_init 2 none 1 := ⟨(by decide +kernel), ⟨(by decide +kernel), (by decide +kernel)⟩, (by decide +kernel), gw_mem 241 (by decide +kernel) (by decide +kernel), gw_mem 77 (by decide +kernel) (by decide +kernel)⟩
theorem wi_X1_init : Cond.instanceMethod yX1_init ∈ GW := gw_mem 240 (by decide +kernel) (by decide +kernel)
theorem wo_X1 : Cond.methodLink RX1 3 Lib.objectInit ∈ GW := gw_mem 242 (by decide +kernel) (by decide +kernel)
theorem kX2_init : KF yX2_init cX2_init 2 none 1 := ⟨(by decide +kernel), ⟨(by decide +kernel), (by decide +kernel)⟩, (by decide +kernel), gw_mem 231 (by decide +kernel) (by decide +kernel), gw_mem 76 (by decide +kernel) (by decide +kernel)⟩
theorem wi_X2_init : Cond.instanceMethod yX2_init ∈ GW := gw_mem 230 (by decide +kernel) (by decide +kernel)
theorem wo_X2 : Cond.methodLink RX2 3 Lib.objectInit ∈ GW := gw_mem 232 (by decide +kernel) (by decide +kernel)
theorem kX3_init : KF yX3_init cX3_init 2 none 1 := ⟨(by decide +kernel), ⟨(by decide +kernel), (by decide +kernel)⟩, (by decide +kernel), gw_mem 221 (by decide +kernel) (by decide +kernel), gw_mem 75 (by decide +kernel) (by decide +kernel)⟩
theorem wi_X3_init : Cond.instanceMethod yX3_init ∈ GW := gw_mem 220 (by decide +kernel) (by decide +kernel)
theorem wo_X3 : Cond.methodLink RX3 3 Lib.objectInit ∈ GW := gw_mem 222 (by decide +kernel) (by decide +kernel)
theorem kX4_init : KF yX4_init cX4_init 1 none 0 := ⟨(by decide +kernel), ⟨(by decide +kernel), (by decide +kernel)⟩, (by decide +kernel), gw_mem 173 (by decide +kernel) (by decide +kernel), gw_mem 72 (by decide +kernel) (by decide +kernel)⟩
theorem wi_X4_init : Cond.instanceMethod yX4_init ∈ GW := gw_mem 172 (by decide +kernel) (by decide +kernel)
theorem wo_X4 : Cond.methodLink RX4 3 Lib.objectInit ∈ GW := gw_mem 174 (by decide +kernel) (by decide +kernel)
theorem kX5_init : KF yX5_init cX5_init 2 none 1 := ⟨(by decide +kernel), ⟨(by decide +kernel), (by decide +kernel)⟩, (by decide +kernel), gw_mem 204 (by decide +kernel) (by decide +kernel), gw_mem 74 (by decide +kernel) (by decide +kernel)⟩
theorem wi_X5_init : Cond.instanceMethod yX5_init ∈ GW := gw_mem 203 (by decide +kernel) (by decide +kernel)
theorem wo_X5 : Cond.methodLink RX5 3 Lib.objectInit ∈ GW := gw_mem 205 (by decide +kernel) (by decide +kernel)
theorem kX6_init : KF yX6_init cX6_init 1 none 0 := ⟨(by decide +kernel), ⟨(by decide +kernel), (by decide +kernel)⟩, (by decide +kernel), gw_mem 93 (by decide +kernel) (by decide +kernel), gw_mem 71 (by decide +kernel) (by decide +kernel)⟩
theorem wi_X6_init : Cond.instanceMethod yX6_init ∈ GW := gw_mem 92 (by decide +kernel) (by decide +kernel)
theorem wo_X6 : Cond.methodLink RX6 3 Lib.objectInit ∈ GW := gw_mem 94 (by decide +kernel) (by decide +kernel)
theorem kX8_init : KF yX8_init cX8_init 1 none 0 := ⟨(by decide +kernel), ⟨(by decide +kernel), (by decide +kernel)⟩, (by decide +kernel), gw_mem 947 (by decide +kernel) (by decide +kernel), gw_mem 78 (by decide +kernel) (by decide +kernel)⟩
theorem wi_X8_init : Cond.instanceMethod yX8_init ∈ GW := gw_mem 946 (by decide +kernel) (by decide +kernel)
theorem wo_X8 : Cond.methodLink RX8 1 Lib.objectInit ∈ GW := gw_mem 948 (by decide +kernel) (by decide +kernel)
theorem kX7_init : KF yX7_init cX7_init 1 none 0 := ⟨(by decide +kernel), ⟨(by decide +kernel), (by decide +kernel)⟩, (by decide +kernel), gw_mem 85 (by decide +kernel) (by decide +kernel), gw_mem 70 (by decide +kernel) (by decide +kernel)⟩
theorem wi_X7_init : Cond.instanceMethod yX7_init ∈ GW := gw_mem 84 (by decide +kernel) (by decide +kernel)
theorem wo_X7 : Cond.methodLink RX7 1 Lib.objectInit ∈ GW := gw_mem 86 (by decide +kernel) (by decide +kernel)
theorem wn_new_X7_7 : Cond.classLink RX7 7 RX6 ∈ GW := gw_mem 89 (by decide +kernel) (by decide +kernel)
theorem wb_6 : Cond.instantiable RX6 12 ∈ GW := gw_mem 90 (by decide +kernel) (by decide +kernel)
theorem ws_6 : Cond.initialized RX6 ∈ GW := gw_mem 71 (by decide +kernel) (by decide +kernel)
theorem df_6 : ∀ j, j < 12 → defaultValue (tyX6 j) = vp_V [.int 0, .int 0, .int 0, .int 0, .int 0, .int 0, .null, .null, .null, .null, .null, .null] j := by decide +kernel
theorem wl_X7_9 : Cond.methodLink RX7 9 yX6_init ∈ GW := gw_mem 91 (by decide +kernel) (by decide +kernel)
theorem wn_new_X7_22 : Cond.classLink RX7 22 RX4 ∈ GW := gw_mem 169 (by decide +kernel) (by decide +kernel)
theorem wb_4 : Cond.instantiable RX4 3 ∈ GW := gw_mem 170 (by decide +kernel) (by decide +kernel)
theorem ws_4 : Cond.initialized RX4 ∈ GW := gw_mem 72 (by decide +kernel) (by decide +kernel)
theorem df_4 : ∀ j, j < 3 → defaultValue (tyX4 j) = vp_V [.int 0, .int 0, .null] j := by decide +kernel
theorem wl_X7_24 : Cond.methodLink RX7 24 yX4_init ∈ GW := gw_mem 171 (by decide +kernel) (by decide +kernel)
theorem wn_new_X7_29 : Cond.classLink RX7 29 RX0 ∈ GW := gw_mem 186 (by decide +kernel) (by decide +kernel)
theorem wb_0 : Cond.instantiable RX0 2 ∈ GW := gw_mem 187 (by decide +kernel) (by decide +kernel)
theorem ws_0 : Cond.initialized RX0 ∈ GW := gw_mem 73 (by decide +kernel) (by decide +kernel)
theorem df_0 : ∀ j, j < 2 → defaultValue (tyX0 j) = vp_V [.int 0, .null] j := by decide +kernel
theorem wl_X7_31 : Cond.methodLink RX7 31 yX0_init ∈ GW := gw_mem 188 (by decide +kernel) (by decide +kernel)
theorem wn_new_X7_36 : Cond.classLink RX7 36 RX5 ∈ GW := gw_mem 200 (by decide +kernel) (by decide +kernel)
theorem wb_5 : Cond.instantiable RX5 3 ∈ GW := gw_mem 201 (by decide +kernel) (by decide +kernel)
theorem ws_5 : Cond.initialized RX5 ∈ GW := gw_mem 74 (by decide +kernel) (by decide +kernel)
theorem df_5 : ∀ j, j < 3 → defaultValue (tyX5 j) = vp_V [.int 0, .null, .null] j := by decide +kernel
theorem wl_X7_38 : Cond.methodLink RX7 38 yX5_init ∈ GW := gw_mem 202 (by decide +kernel) (by decide +kernel)
theorem wn_new_X7_45 : Cond.classLink RX7 45 RX3 ∈ GW := gw_mem 217 (by decide +kernel) (by decide +kernel)
theorem wb_3 : Cond.instantiable RX3 1 ∈ GW := gw_mem 218 (by decide +kernel) (by decide +kernel)
theorem ws_3 : Cond.initialized RX3 ∈ GW := gw_mem 75 (by decide +kernel) (by decide +kernel)
theorem df_3 : ∀ j, j < 1 → defaultValue (tyX3 j) = vp_V [.null] j := by decide +kernel
theorem wl_X7_47 : Cond.methodLink RX7 47 yX3_init ∈ GW := gw_mem 219 (by decide +kernel) (by decide +kernel)
theorem wn_new_X7_52 : Cond.classLink RX7 52 RX2 ∈ GW := gw_mem 227 (by decide +kernel) (by decide +kernel)
theorem wb_2 : Cond.instantiable RX2 1 ∈ GW := gw_mem 228 (by decide +kernel) (by decide +kernel)
theorem ws_2 : Cond.initialized RX2 ∈ GW := gw_mem 76 (by decide +kernel) (by decide +kernel)
theorem df_2 : ∀ j, j < 1 → defaultValue (tyX2 j) = vp_V [.null] j := by decide +kernel
theorem wl_X7_54 : Cond.methodLink RX7 54 yX2_init ∈ GW := gw_mem 229 (by decide +kernel) (by decide +kernel)
theorem wn_new_X7_59 : Cond.classLink RX7 59 RX1 ∈ GW := gw_mem 237 (by decide +kernel) (by decide +kernel)
theorem wb_1 : Cond.instantiable RX1 2 ∈ GW := gw_mem 238 (by decide +kernel) (by decide +kernel)
theorem ws_1 : Cond.initialized RX1 ∈ GW := gw_mem 77 (by decide +kernel) (by decide +kernel)
theorem df_1 : ∀ j, j < 2 → defaultValue (tyX1 j) = vp_V [.null, .null] j := by decide +kernel
theorem wl_X7_61 : Cond.methodLink RX7 61 yX1_init ∈ GW := gw_mem 239 (by decide +kernel) (by decide +kernel)
theorem wn_new_L_7 : Cond.classLink RL 7 RX7 ∈ GW := gw_mem 81 (by decide +kernel) (by decide +kernel)
theorem wb_7 : Cond.instantiable RX7 11 ∈ GW := gw_mem 82 (by decide +kernel) (by decide +kernel)
theorem ws_7 : Cond.initialized RX7 ∈ GW := gw_mem 70 (by decide +kernel) (by decide +kernel)
theorem df_7 : ∀ j, j < 11 → defaultValue (tyX7 j) = vp_V [.null, .null, .null, .null, .null, .null, .null, .null, .null, .null, .int 0] j := by decide +kernel
theorem wn_new_L_10 : Cond.classLink RL 10 RX8 ∈ GW := gw_mem 943 (by decide +kernel) (by decide +kernel)
theorem wb_8 : Cond.instantiable RX8 29 ∈ GW := gw_mem 944 (by decide +kernel) (by decide +kernel)
theorem ws_8 : Cond.initialized RX8 ∈ GW := gw_mem 78 (by decide +kernel) (by decide +kernel)
theorem df_8 : ∀ j, j < 29 → defaultValue (tyX8 j) = vp_V [.null, .null, .null, .null, .null, .null, .null, .int 0, .int 0, .int 0, .int 0, .int 0, .int 0, .null, .null, .null, .null, .int 0, .int 0, .int 0, .null, .int 0, .int 0, .int 0, .int 0, .null, .int 0, .null, .int 0] j := by decide +kernel
