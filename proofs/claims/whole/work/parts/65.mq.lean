/-! PURE: the reference's questions: of the ways -/
theorem newp_M {V : Nat → Nat → Nat} {S : OS} (hM : MR V S) (hB : WB V) (hL : WL V) {sk bits : Nat} (hs : sk ≤ 9) (hb : bits < 256) : f_X8_newPasses S (nI sk) (nI bits) = some (bI (paB V bits sk 0 (V 3 0) (V 4 0))) := by
  have h8 := hB.1
  have hh := hL.1
  have h4 := hL.2.1
  unfold f_X8_newPasses
  refine lp_run2 (V 0 0) (fun i a s => a = nI (sb (fs V sk 0 (V 3 0)) bits i) ∧ s = nI i ∧ alB (fun s => !bits.testBit s || decide (fs V sk 0 (V 3 0) s ≤ 5)) i = true) _ ?_ FU 0 _ _ (Nat.zero_le _) ⟨rfl, rfl, rfl⟩ (by rw [FU_1000]; omega)
  rintro k i a s hi ⟨rfl, rfl, ha⟩
  have hsb := sb_le22 hB (bits := bits) (sk := sk) (kn := 0) hh hi
  unfold b_X8_newPasses_5 j_X8_newPasses_52 j_X8_newPasses_53 j_X8_newPasses_74
  rw [hM.1 0 (by decide)]
  by_cases e : i = V 0 0
  · left
    subst e
    rw [if_pos (nI_le (Nat.le_refl _) (by omega)), show S.1 11 = nI (V 4 0) from hM.1 4 (by decide)]
    have hp : paB V bits sk 0 (V 3 0) (V 4 0) = decide (sb (fs V sk 0 (V 3 0)) bits (V 0 0) ≤ V 4 0) := by
      unfold paB okB fo
      rw [ha, Bool.true_and]
    rw [hp]
    by_cases q : sb (fs V sk 0 (V 3 0)) bits (V 0 0) ≤ V 4 0
    · rw [if_neg (nI_nlt q (by omega)), decide_eq_true q]; rfl
    · rw [if_pos (nI_lt (by omega) (by omega)), decide_eq_false q]; rfl
  · have hlt : i < V 0 0 := by omega
    have hf := hd_le hB (by omega : i < 8) hh
    have hfs : fs V sk 0 (V 3 0) i = hd V i (V 3 0) - sk := by
      unfold fs fq
      rw [Nat.zero_testBit, if_neg (by decide)]
    have h00 : (0 : Int32) ≤ 5 := by decide
    rw [if_neg (nI_ge hlt (by omega)), has_M (by omega) (by omega), Option.bind_some, if_bI, show S.1 10 = nI (V 3 0) from hM.1 3 (by decide), hard_M (MR_MB hM) hB (by omega) hh]
    simp only [Option.bind_some, if_pos h00]
    rw [show nI i + (1 : Int32) = nI (i + 1) from nI_1 i, show nI (sb (fs V sk 0 (V 3 0)) bits i) + (0 : Int32) = nI (sb (fs V sk 0 (V 3 0)) bits i) from nI_add _ 0]
    by_cases e2 : bits.testBit i = true
    · rw [if_pos e2]
      have hs1 : sb (fs V sk 0 (V 3 0)) bits (i + 1) = sb (fs V sk 0 (V 3 0)) bits i + (hd V i (V 3 0) - sk) := by rw [sb, if_pos e2, hfs]
      by_cases e3 : hd V i (V 3 0) ≤ sk
      · rw [if_pos (nI_le e3 (by omega))]
        refine Or.inr ⟨hlt, _, _, ⟨by rw [hs1, Nat.sub_eq_zero_of_le e3, Nat.add_zero], rfl, ?_⟩, rfl⟩
        rw [alB, ha, hfs, Nat.sub_eq_zero_of_le e3]; simp
      · rw [if_neg (nI_ge (by omega) (by omega)), pk_sub (by omega)]
        by_cases e4 : hd V i (V 3 0) - sk ≤ 5
        · rw [if_pos (show nI (hd V i (V 3 0) - sk) ≤ (5 : Int32) from nI_le (b := 5) e4 (by decide))]
          refine Or.inr ⟨hlt, _, _, ⟨by rw [hs1]; exact nI_add _ _, rfl, ?_⟩, rfl⟩
          rw [alB, ha, hfs, decide_eq_true e4]; simp
        · rw [if_neg (show ¬ nI (hd V i (V 3 0) - sk) ≤ (5 : Int32) from nI_ge (a := 5) (by omega) (by omega))]
          left
          have hno : okB V bits sk 0 (V 3 0) = false := alB_no hlt (by rw [e2, hfs, decide_eq_false e4]; rfl)
          unfold paB
          rw [hno]; rfl
    · rw [if_neg e2]
      refine Or.inr ⟨hlt, _, _, ⟨by rw [sb, if_neg e2]; rfl, rfl, ?_⟩, rfl⟩
      rw [alB, ha]; simp [e2]
theorem newc_M {V : Nat → Nat → Nat} {S : OS} (hM : MR V S) (hB : WB V) (hL : WL V) {sk : Nat} (hs : sk ≤ 9) : Lp2 (b_X8_newcomer_23 (nI sk) S) FU 0 0 = some (nI (wp V sk 0 (V 3 0) (V 4 0)), S) := by
  have h6 := hB.2.1
  refine lp_run2 (V 1 0) (fun i a s => a = nI (bs (fun w => paB V (V 9 w) sk 0 (V 3 0) (V 4 0)) i) ∧ s = nI i) _ ?_ FU 0 _ _ (Nat.zero_le _) ⟨rfl, rfl⟩ (by rw [FU_1000]; omega)
  rintro k i a s hi ⟨rfl, rfl⟩
  unfold b_X8_newcomer_23 j_X8_newcomer_56
  rw [hM.1 1 (by decide)]
  by_cases e : i = V 1 0
  · left
    subst e
    rw [if_pos (nI_le (Nat.le_refl _) (by omega))]
    rfl
  · have hlt : i < V 1 0 := by omega
    rw [if_neg (nI_ge hlt (by omega)), if_pos (ibw hB hlt), thM hM hB hlt, newp_M hM hB hL hs (WB_th hB hlt), Option.bind_some, if_bI, show nI i + (1 : Int32) = nI (i + 1) from nI_1 i]
    refine Or.inr ⟨hlt, ?_⟩
    by_cases e2 : paB V (V 9 i) sk 0 (V 3 0) (V 4 0) = true
    · rw [if_pos e2, sh1 i (by omega), or_nI]
      exact ⟨_, _, ⟨by rw [bs, if_pos e2], rfl⟩, rfl⟩
    · rw [if_neg e2]
      exact ⟨_, _, ⟨by rw [bs, if_neg e2]; exact or_nI _ 0, rfl⟩, rfl⟩
theorem thr_M {V : Nat → Nat → Nat} {S : OS} (hM : MR V S) (hB : WB V) {s : Nat} (hs : s < 31) : f_X8_waysWith S (nI s) = some (nI (wtN V s)) := by
  have h6 := hB.2.1
  unfold f_X8_waysWith
  refine lp_run2 (V 1 0) (fun i a t => a = nI (cnB (fun w => (V 9 w).testBit s) i) ∧ t = nI i) _ ?_ FU 0 _ _ (Nat.zero_le _) ⟨rfl, rfl⟩ (by rw [FU_1000]; omega)
  rintro k i a t hi ⟨rfl, rfl⟩
  unfold b_X8_waysWith_4
  rw [hM.1 1 (by decide)]
  by_cases e : i = V 1 0
  · left
    subst e
    rw [if_pos (nI_le (Nat.le_refl _) (by omega))]
    rfl
  · have hlt : i < V 1 0 := by omega
    rw [if_neg (nI_ge hlt (by omega)), if_pos (ibw hB hlt), thM hM hB hlt, bit_nI (by have := WB_th hB hlt; omega) hs, show nI i + (1 : Int32) = nI (i + 1) from nI_1 i]
    refine Or.inr ⟨hlt, _, _, ⟨?_, rfl⟩, rfl⟩
    rw [cnB]
    cases (V 9 i).testBit s with
    | true => exact nI_1 _
    | false => exact nI_add _ 0
def frN (V : Nat → Nat → Nat) : Nat := bs (fun s => decide (wtN V s = 0)) (V 0 0)
theorem crow_M {V : Nat → Nat → Nat} {S : OS} (hM : MR V S) (hB : WB V) {what : Int32} : Lp3 (b_X8_crowded_24 what S) FU (-9) 0 0 = some (if what = 2 then nI (frN V) else if what = 0 then ob (-9) (crN V) else vo 0 (wtN V) (crN V), S) := by
  have h8 := hB.1
  refine lp_run3 (V 0 0) (fun i b a s => b = ob (-9) (amo (gtF (wtN V)) (fun _ => true) i) ∧ a = nI (bs (fun s => decide (wtN V s = 0)) i) ∧ s = nI i) _ ?_ FU 0 _ _ _ (Nat.zero_le _) ⟨rfl, rfl, rfl⟩ (by rw [FU_1000]; omega)
  rintro k i b a s hi ⟨rfl, rfl, rfl⟩
  unfold b_X8_crowded_24
  rw [hM.1 0 (by decide)]
  by_cases e : i = V 0 0
  · left
    subst e
    rw [if_pos (nI_le (Nat.le_refl _) (by omega))]
    unfold j_X8_crowded_84
    by_cases e2 : what = 2
    · rw [if_pos e2, if_pos e2]; rfl
    · rw [if_neg e2, if_neg e2]
      by_cases e3 : what = 0
      · rw [if_pos e3, if_pos e3]; rfl
      · rw [if_neg e3, if_neg e3]
        show (if 0 ≤ ob (-9) (crN V) then _ else _) = _
        cases ho : crN V with
        | none => rfl
        | some b =>
          have hb := (amo_ok ho).1
          have ho' : amo (gtF (wtN V)) (fun _ => true) (V 0 0) = some b := ho
          rw [ho', show ob (-9) (some b) = nI b from rfl, if_pos (nI_pos' (by omega)), thr_M hM hB (by omega), Option.bind_some]
          rfl
  · have hlt : i < V 0 0 := by omega
    have f1 := wtN_le hB (s := i)
    have kk : ∀ x : Int32, j_X8_crowded_57 k what (nI (bs (fun s => decide (wtN V s = 0)) i)) (nI i) x S = k x (nI (bs (fun s => decide (wtN V s = 0)) (i + 1))) (nI (i + 1)) := by
      intro x
      unfold j_X8_crowded_57 j_X8_crowded_76
      rw [thr_M hM hB (by omega), Option.bind_some, show nI i + (1 : Int32) = nI (i + 1) from nI_1 i, sh1 i (by omega), or_nI]
      by_cases e2 : wtN V i = 0
      · rw [if_pos (show nI (wtN V i) = (0 : Int32) by rw [e2]; rfl), bs, if_pos (decide_eq_true e2)]
      · rw [if_neg (nI_ne0 (by omega) (by omega)), bs, if_neg (by simpa using e2), show (nI (bs (fun s => decide (wtN V s = 0)) i) ||| (0 : Int32)) = nI (bs (fun s => decide (wtN V s = 0)) i ||| 0) from or_nI _ 0]
    rw [if_neg (nI_ge hlt (by omega))]
    unfold j_X8_crowded_51
    rw [kk, kk]
    refine Or.inr ⟨hlt, ?_⟩
    cases ho : amo (gtF (wtN V)) (fun _ => true) i with
    | none =>
      rw [if_pos (by decide)]
      exact ⟨_, _, _, ⟨by rw [amo, ho, amS_n rfl]; rfl, rfl, rfl⟩, rfl⟩
    | some b =>
      have hb := (amo_ok ho).1
      have f2 := wtN_le hB (s := b)
      rw [show ob (-9) (some b) = nI b from rfl, if_neg (nI_pos (by omega)), thr_M hM hB (by omega), Option.bind_some, thr_M hM hB (by omega), Option.bind_some]
      by_cases e2 : wtN V i ≤ wtN V b
      · rw [if_pos (nI_le e2 (by omega))]
        exact ⟨_, _, _, ⟨by rw [amo, ho, amS_f (by exact dcF e2)]; rfl, rfl, rfl⟩, rfl⟩
      · rw [if_neg (nI_ge (by omega) (by omega))]
        exact ⟨_, _, _, ⟨by rw [amo, ho, amS_t rfl (by exact dcT e2)]; rfl, rfl, rfl⟩, rfl⟩
theorem orN_ab {V : Nat → Nat → Nat} {w : Nat} : ∀ {n : Nat}, w < n → orN V n ||| V 9 w = orN V n
  | n + 1, h => by
    rw [orN]
    by_cases e : w = n
    · subst e; rw [Nat.or_assoc, Nat.or_self]
    · rw [Nat.or_assoc, Nat.or_comm (V 9 n), ← Nat.or_assoc, orN_ab (by omega : w < n)]
theorem foll_M {V : Nat → Nat → Nat} {S : OS} (hM : MR V S) (hB : WB V) {n : Nat} (hn : n < 900) : f_X8_followed S (nI n) = some (nI (orN V (min n (V 1 0)))) := by
  have h6 := hB.2.1
  unfold f_X8_followed
  refine lp_run2 n (fun i a s => a = nI (orN V (min i (V 1 0))) ∧ s = nI i) _ ?_ FU 0 _ _ (Nat.zero_le _) ⟨by rw [Nat.zero_min]; rfl, rfl⟩ (by rw [FU_1000]; omega)
  rintro k i a s hi ⟨rfl, rfl⟩
  unfold b_X8_followed_4
  rw [hM.1 1 (by decide)]
  by_cases e : i = n
  · left
    subst e
    rw [if_pos (nI_le (Nat.le_refl _) (by omega))]
  · rw [if_neg (nI_ge (by omega) (by omega))]
    by_cases e0 : V 1 0 = 0
    · left
      rw [if_pos (by rw [e0]; decide), e0, Nat.min_zero, Nat.min_zero]
    · have hm : i % V 1 0 < V 1 0 := Nat.mod_lt _ (by omega)
      rw [if_neg (nI_nle (by omega) (by omega)), if_neg (nI_ne0 (by omega) (by omega)), rem_nI (by omega) (by omega) (by omega), if_pos (ibw hB hm), thM hM hB hm, or_nI, show nI i + (1 : Int32) = nI (i + 1) from nI_1 i]
      refine Or.inr ⟨by omega, _, _, ⟨?_, rfl⟩, rfl⟩
      congr 1
      by_cases c : i < V 1 0
      · rw [Nat.mod_eq_of_lt c, Nat.min_eq_left (by omega), Nat.min_eq_left (by omega), orN]
      · rw [Nat.min_eq_right (by omega), Nat.min_eq_right (by omega), orN_ab hm]
theorem moped_M {V : Nat → Nat → Nat} {S : OS} (hM : MR V S) (hB : WB V) : Lp1 (b_X8_moped_47 S) FU 0 = some (ob 0 (ttN V), S) := by
  have h6 := hB.2.1
  have ha := orN_lt hB (Nat.le_refl (V 1 0))
  refine lp_run1 (V 1 0) (fun i s => s = nI i ∧ ∀ j, j < i → decide (orN V j = orN V (V 1 0)) = false) _ ?_ FU 0 _ (Nat.zero_le _) ⟨rfl, fun j hj => by omega⟩ (by rw [FU_1000]; omega)
  rintro k i s hi ⟨rfl, hno⟩
  have hb := orN_lt hB (n := i) hi
  unfold b_X8_moped_47
  rw [hM.1 1 (by decide), foll_M hM hB (by omega), Option.bind_some, foll_M hM hB (by omega), Option.bind_some, Nat.min_self, Nat.min_eq_left hi]
  by_cases e2 : orN V i = orN V (V 1 0)
  · left
    rw [e2, if_pos rfl]
    unfold ttN
    rw [fst_at hno (decide_eq_true e2) (by omega)]
    rfl
  · rw [if_neg (fun q => e2 ((nI_eq (by omega) (by omega)).mp q))]
    refine Or.inr ⟨?_, _, ⟨nI_1 i, fun j hj => ?_⟩, rfl⟩
    · rcases Nat.lt_or_ge i (V 1 0) with q | q
      · exact q
      · exact absurd (by rw [show i = V 1 0 by omega]) e2
    · by_cases ej : j = i
      · subst ej; exact decide_eq_false e2
      · exact hno j (by omega)
theorem apt_M {a b : Nat} (ha : a < 2 ^ 30) (hb : b < 2 ^ 30) : f_X8_apart (nI a) (nI b) = some (nI (adN a b)) := by
  unfold f_X8_apart adN
  by_cases e : a ≤ b
  · rw [if_pos (nI_le e (by omega)), if_pos e, pk_sub e]
  · rw [if_neg (nI_ge (by omega) (by omega)), if_neg e, pk_sub (by omega)]
theorem made_M {V : Nat → Nat → Nat} {S : OS} (hM : MR V S) (hB : WB V) (hL : WL V) {kinds m v : Nat} (hk : kinds < 64) (hm : m ≤ 72) (hv : v ≤ 99) : Lp3 (b_X8_made_68 (nI kinds) (nI m) (nI v) S) FU (-9) 1000 1 = some (ob (-9) (madeN V kinds m v), S) := by
  have h8 := p2_8 hB.1
  have hp0 := Nat.two_pow_pos (V 0 0)
  have hh := hL.1
  have hX := MR_MB hM
  refine lp_run3 (2 ^ V 0 0) (fun i b u s => 1 ≤ i ∧ b = ob (-9) (amo (ltF (fun set => adN (ho V set (V 3 0)) v)) (madeP V kinds m) i) ∧ u = vo 1000 (fun set => adN (ho V set (V 3 0)) v) (amo (ltF (fun set => adN (ho V set (V 3 0)) v)) (madeP V kinds m) i) ∧ s = nI i) _ ?_ FU 1 _ _ _ (by omega) ⟨Nat.le_refl _, rfl, rfl, rfl⟩ (by rw [FU_1000]; omega)
  rintro k i b u s hi ⟨h1, rfl, rfl, rfl⟩
  have hkk := ko_lt hB (bits := i) hB.1
  have hmm := mo_le hB (bits := i)
  have hoo := fun x => ho_le hB (bits := x) hh
  have had : ∀ x, adN (ho V x (V 3 0)) v ≤ 176 := fun x => by have := adN_le (a := ho V x (V 3 0)) (b := v); have := hoo x; omega
  unfold b_X8_made_68 j_X8_made_136
  rw [hM.1 0 (by decide), sh1 _ (by have := hB.1; omega)]
  by_cases e : i = 2 ^ V 0 0
  · left
    subst e
    rw [if_pos (nI_le (Nat.le_refl _) (by omega))]
    rfl
  · have hlt : i < 2 ^ V 0 0 := by omega
    have hi0 := hoo i
    rw [if_neg (nI_ge hlt (by omega)), show S.1 10 = nI (V 3 0) from hM.1 3 (by decide), ho_M hX hB (by omega) hh, Option.bind_some, apt_M (by omega) (by omega), Option.bind_some, ko_M hX hB (by omega), Option.bind_some, nd_nI (by omega), mo_M hX hB (by omega), Option.bind_some, show nI i + (1 : Int32) = nI (i + 1) from nI_1 i]
    refine Or.inr ⟨hlt, ?_⟩
    have hpe : madeP V kinds m i = (decide (nd kinds (ko V i (V 0 0)) = 0) && decide (mo V i ≤ m)) := by unfold madeP; rw [decide_eq_true h1, Bool.true_and]
    have nop : madeP V kinds m i = false → amo (ltF (fun set => adN (ho V set (V 3 0)) v)) (madeP V kinds m) (i + 1) = amo (ltF (fun set => adN (ho V set (V 3 0)) v)) (madeP V kinds m) i := fun q => by rw [amo, amS_p q]
    by_cases e1 : nd kinds (ko V i (V 0 0)) = 0
    · rw [if_pos (show nI (nd kinds (ko V i (V 0 0))) = (0 : Int32) by rw [e1]; rfl)]
      rw [decide_eq_true e1, Bool.true_and] at hpe
      by_cases e2 : mo V i ≤ m
      · rw [decide_eq_true e2] at hpe
        rw [if_neg (nI_nlt e2 (by omega))]
        cases ho' : amo (ltF (fun set => adN (ho V set (V 3 0)) v)) (madeP V kinds m) i with
        | none =>
          rw [if_pos (show nI (adN (ho V i (V 3 0)) v) < vo 1000 (fun set => adN (ho V set (V 3 0)) v) none from nI_lt (b := 1000) (by have := had i; omega) (by decide))]
          exact ⟨_, _, _, ⟨by omega, by rw [amo, ho', amS_n hpe]; rfl, by rw [amo, ho', amS_n hpe]; rfl, rfl⟩, rfl⟩
        | some c =>
          have hc := had c
          have hi3 := had i
          by_cases e3 : adN (ho V c (V 3 0)) v ≤ adN (ho V i (V 3 0)) v
          · rw [if_neg (show ¬ nI (adN (ho V i (V 3 0)) v) < vo 1000 (fun set => adN (ho V set (V 3 0)) v) (some c) from nI_nlt e3 (by omega))]
            exact ⟨_, _, _, ⟨by omega, by rw [amo, ho', amS_f (by exact dcF e3)], by rw [amo, ho', amS_f (by exact dcF e3)], rfl⟩, rfl⟩
          · rw [if_pos (show nI (adN (ho V i (V 3 0)) v) < vo 1000 (fun set => adN (ho V set (V 3 0)) v) (some c) from nI_lt (Nat.lt_of_not_le e3) (Nat.lt_of_le_of_lt hc (by decide)))]
            exact ⟨_, _, _, ⟨by omega, by rw [amo, ho', amS_t hpe (by exact dcT e3)]; rfl, by rw [amo, ho', amS_t hpe (by exact dcT e3)]; rfl, rfl⟩, rfl⟩
      · rw [decide_eq_false e2] at hpe
        rw [if_pos (nI_lt (by omega) (by omega))]
        exact ⟨_, _, _, ⟨by omega, by rw [nop hpe], by rw [nop hpe], rfl⟩, rfl⟩
    · rw [decide_eq_false e1, Bool.false_and] at hpe
      rw [if_neg (nI_ne0 (by omega) (Nat.lt_trans (nd_lt (by omega)) (by decide)))]
      exact ⟨_, _, _, ⟨by omega, by rw [nop hpe], by rw [nop hpe], rfl⟩, rfl⟩
