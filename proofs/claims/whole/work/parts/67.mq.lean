/-! PURE: the reference's questions: the queue, balls, lots -/
theorem lp_in2 {A1 A2 ρ : Type} {body : (A1 → A2 → Option ρ) → A1 → A2 → Option ρ} (n : Nat) (I : Nat → A1 → A2 → Prop) (E : Option ρ → Prop) (h : ∀ (k : A1 → A2 → Option ρ) (i : Nat) (a1 : A1) (a2 : A2), i ≤ n → I i a1 a2 → E (body k a1 a2) ∨ (i < n ∧ ∃ b1 b2, I (i + 1) b1 b2 ∧ body k a1 a2 = k b1 b2)) : ∀ (fuel i : Nat) (a1 : A1) (a2 : A2), i ≤ n → I i a1 a2 → n - i < fuel → E (Lp2 body fuel a1 a2)
  | 0, _, _, _, _, _, hf => absurd hf (Nat.not_lt_zero _)
  | fuel + 1, i, a1, a2, hi, hI, hf => by
    rw [Lp2]
    rcases h (Lp2 body fuel) i a1 a2 hi hI with q | ⟨hlt, b1, b2, hb, e⟩
    · exact q
    · rw [e]
      exact lp_in2 n I E h fuel (i + 1) b1 b2 (by omega) hb (by omega)
theorem sa_sa {S : OS} {k : Nat} {f g : Nat → Int32} : sa (sa S k f) k g = sa S k g := by
  obtain ⟨a, b⟩ := S
  show ((a, upA (upA b k f) k g) : OS) = (a, upA b k g)
  congr 1
  funext j
  by_cases h : j = k
  · subst h; rw [upA_s, upA_s]
  · rw [upA_n h, upA_n h, upA_n h]
theorem pc_lt : ∀ n, n ≤ 5 → ∀ m, m < 2 ^ n → pc 8 m ≤ n := by decide
theorem later_M {V : Nat → Nat → Nat} {S : OS} (hM : MR V S) (hB : WB V) (hL : WL V) {w l left : Nat} (hw : w < V 1 0) (hl : l < V 2 0) (hleft : left < 2 ^ V 2 0) : f_X8_passesLater S (nI l) (nI w) (nI left) = some (nI (qP V w l left)) := by
  have h5 := hB.2.2.1
  have h25 := p25 hB
  have hpc := pc_lt _ h5 _ hleft
  have hh := hL.1
  have hmod := Nat.mod_lt (V 3 0 + (V 2 0 - pc 8 left)) (by decide : 0 < 24)
  unfold f_X8_passesLater qP
  rw [bc_M _ (by omega), Option.bind_some, show S.1 10 = nI (V 3 0) from hM.1 3 (by decide), hM.1 2 (by decide), nI_add, pk_sub (by omega), show (24 : Int32) = nI 24 from rfl, rem_nI (by omega) (by decide) (by decide), show V 3 0 + V 2 0 - pc 8 left = V 3 0 + (V 2 0 - pc 8 left) by omega, pwM hM hB hL (by omega) hw hmod, Option.bind_some, if_bI]
  split <;> rfl
theorem findq_M {V : Nat → Nat → Nat} {S : OS} (hM : MR V S) (hB : WB V) (hL : WL V) {w : Nat} (hw : w < V 1 0) : ∃ F, f_X8_findQueue S (nI w) = some (sa S 27 F) ∧ qH V w (2 ^ V 2 0) F := by
  have h5 := hB.2.2.1
  have h25 := p25 hB
  have hp0 := Nat.two_pow_pos (V 2 0)
  have hMF : ∀ F, MR V (sa S 27 F) := fun F => MR_sa hM (by decide)
  unfold f_X8_findQueue
  suffices hs : ∃ r, Lp2 (b_X8_findQueue_2 (nI w)) FU 0 S = some r ∧ ∃ F, r = sa S 27 F ∧ qH V w (2 ^ V 2 0) F by
    obtain ⟨r, h1, F, rfl, h2⟩ := hs
    exact ⟨F, h1, h2⟩
  refine lp_ex2 (2 ^ V 2 0) (fun i a (t : OS) => a = nI i ∧ ∃ F, t = sa S 27 F ∧ qH V w i F) (fun r : OS => ∃ F, r = sa S 27 F ∧ qH V w (2 ^ V 2 0) F) ?_ FU 0 _ _ (Nat.zero_le _) ⟨rfl, S.2 27, ?_, fun j hj => by omega⟩ (by rw [FU_1000]; omega)
  · rintro k i a t hi ⟨rfl, F, rfl, hF⟩
    unfold b_X8_findQueue_2
    rw [(hMF F).1 2 (by decide), sh1 _ (by omega)]
    by_cases e : i = 2 ^ V 2 0
    · left
      subst e
      rw [if_pos (nI_le (Nat.le_refl _) (by omega))]
      exact ⟨_, rfl, F, rfl, hF⟩
    · have hlt : i < 2 ^ V 2 0 := by omega
      rw [if_neg (nI_ge hlt (by omega)), inb_t (by omega : i < 32) (by decide), nI_clamp (by omega), sa_s, sa_sa]
      right; left
      refine ⟨hlt, ?_⟩
      suffices hs : ∃ G, qH V w (i + 1) G ∧ Lp2 (b_X8_findQueue_21 k (nI w) (nI i)) FU 0 (sa S 27 (upd F i 0)) = k (nI (i + 1)) (sa S 27 G) by
        obtain ⟨G, g1, g2⟩ := hs
        exact ⟨_, _, ⟨rfl, G, rfl, g1⟩, g2⟩
      refine lp_in2 (V 2 0) (fun m a (t : OS) => a = nI m ∧ ∃ G, t = sa S 27 G ∧ qH V w i G ∧ G i = nI (qM V w (qT V w i) i m)) (fun r => ∃ G, qH V w (i + 1) G ∧ r = k (nI (i + 1)) (sa S 27 G)) ?_ FU 0 _ _ (Nat.zero_le _) ⟨rfl, _, rfl, fun j hj => by rw [upd_n (by omega)]; exact hF j hj, upd_s⟩ (by rw [FU_1000]; omega)
      rintro k2 m a t hm ⟨rfl, G, rfl, hG, hGi⟩
      have hq := fun n => qM_le (V := V) (w := w) (left := i) (c := i) (tb := qT V w i) (fun j => qT_le i j) n
      have hq1 := hq m
      unfold b_X8_findQueue_21
      rw [(hMF G).1 2 (by decide)]
      by_cases e2 : m = V 2 0
      · left
        subst e2
        rw [if_pos (nI_le (Nat.le_refl _) (by omega))]
        unfold j_X8_findQueue_97
        rw [show nI i + (1 : Int32) = nI (i + 1) from nI_1 i]
        refine ⟨G, fun j hj => ?_, rfl⟩
        rw [qT]
        by_cases ej : j = i
        · subst ej; rw [hGi, if_pos rfl]
        · rw [if_neg ej]; exact hG j (by omega)
      · have hlt2 : m < V 2 0 := by omega
        have fin : ∀ x, x ≤ 1000 → j_X8_findQueue_61 k k2 (nI w) (nI i) (nI m) (nI x) (sa S 27 G) = k2 (nI (m + 1)) (sa S 27 (upd G i (nI (max (qM V w (qT V w i) i m) x)))) := by
          intro x hx
          unfold j_X8_findQueue_61 j_X8_findQueue_90
          simp only [inb_nI (show i < 32 by omega) (show 32 < 2 ^ 31 by decide), nI_clamp (show i < 2 ^ 31 by omega), ↓reduceIte, sa_s, sa_sa, hGi]
          rw [show nI m + (1 : Int32) = nI (m + 1) from nI_1 m]
          by_cases c : x ≤ qM V w (qT V w i) i m
          · rw [if_pos (nI_le c (by omega)), Nat.max_eq_left c]
          · rw [if_neg (nI_ge (by omega) (by omega)), Nat.max_eq_right (by omega)]
        have upq : ∀ y, qH V w i (upd G i y) := fun y j hj => by rw [upd_n (by omega)]; exact hG j hj
        rw [if_neg (nI_ge hlt2 (by omega)), has_M (by omega) (by omega), Option.bind_some, if_bI]
        right
        refine ⟨hlt2, ?_⟩
        by_cases e3 : i.testBit m = true
        · have h3 := qT_le (V := V) (w := w) i (nd i (2 ^ m))
          have h4 := qP_le (V := V) (w := w) (l := m) (left := i)
          have hnd := nd_less (by omega : m < 8) e3
          rw [if_pos e3, later_M (hMF G) hB hL hw hlt2 hlt, Option.bind_some, sh1 m (by omega), nd_nI (by omega), inb_t (by omega : nd i (2 ^ m) < 32) (by decide), nI_clamp (by omega), sa_s, hG _ hnd, nI_add, fin _ (by omega)]
          exact ⟨_, _, ⟨rfl, _, rfl, upq _, by rw [upd_s, qM, if_pos e3]⟩, rfl⟩
        · rw [if_neg e3, show (0 : Int32) = nI 0 from rfl, fin 0 (by omega)]
          exact ⟨_, _, ⟨rfl, _, rfl, upq _, by rw [upd_s, qM, if_neg e3, Nat.max_eq_left (Nat.zero_le _)]⟩, rfl⟩
  · obtain ⟨a, b⟩ := S
    show ((a, b) : OS) = (a, upA b 27 (b 27))
    rw [upA_id]
theorem queue_M {V : Nat → Nat → Nat} {S : OS} (hM : MR V S) (hB : WB V) (hL : WL V) {w : Nat} {i : Int32} (hw : w < V 1 0) : ∃ F, j_X8_queue_23 (nI w) i 0 S = some (quA V w i, sa S 27 F) := by
  have h5 := hB.2.2.1
  have h25 := p25 hB
  have hp := Nat.two_pow_pos (V 2 0)
  obtain ⟨F, hF1, hF⟩ := findq_M hM hB hL hw
  have hMF : MR V (sa S 27 F) := MR_sa hM (by decide)
  refine ⟨F, ?_⟩
  have e9 : (sa S 27 F).1 9 = nI (V 2 0) := hMF.1 2 (by decide)
  have full : nI (2 ^ V 2 0) - (1 : Int32) = nI (2 ^ V 2 0 - 1) := pk_sub (a := 2 ^ V 2 0) (b := 1) hp
  unfold j_X8_queue_23 quA
  rw [if_pos rfl, hF1, Option.bind_some, e9, sh1 _ (by omega), full]
  by_cases c : i < 0
  · have c2 : ¬ 0 ≤ i := fun q => by
      have h1 := Int32.lt_iff_toInt_lt.mp c
      have h2 := Int32.le_iff_toInt_le.mp q
      omega
    rw [if_neg c2, if_pos c, inb_t (by omega : 2 ^ V 2 0 - 1 < 32) (by decide), nI_clamp (by omega), sa_s, hF _ (by omega)]
  · obtain ⟨p, hp31, rfl⟩ := nI_of c
    rw [if_pos (nI_pos' hp31), if_neg c, nI_clamp hp31]
    by_cases c2 : p < V 2 0
    · rw [if_pos (nI_lt c2 (by omega)), if_pos (nI_lt c2 (by omega))]
      refine lp_run3 (p + 1) (fun j left last s => left = nI (lfN V w j) ∧ last = (match j with | 0 => 0 | j + 1 => ob 0 (nxN V w (lfN V w j))) ∧ s = nI j) _ ?_ FU 0 _ _ _ (Nat.zero_le _) ⟨rfl, rfl, rfl⟩ (by rw [FU_1000]; omega)
      rintro k j left last s hj ⟨rfl, rfl, rfl⟩
      unfold b_X8_queue_78
      by_cases e : j = p + 1
      · left
        subst e
        rw [if_pos (nI_lt (by omega) (by omega))]
      · have hjp : j ≤ p := by omega
        obtain ⟨l, n1, n2, n3⟩ := lf_nx hB (w := w) (by omega : j < V 2 0)
        obtain ⟨f1, f2⟩ := lf_ok hB (w := w) j (by omega)
        rw [if_neg (nI_nlt hjp (by omega))]
        refine Or.inr ⟨by omega, nI (lfN V w (j + 1)), nI l, nI (j + 1), ⟨rfl, by show nI l = ob 0 (nxN V w (lfN V w j)); rw [n1]; rfl, rfl⟩, ?_⟩
        obtain ⟨-, m2, m3⟩ := fst_ok n1
        rw [Bool.and_eq_true] at m2
        refine lp_run1 l (fun x s => s = nI x) _ ?_ FU 0 _ (Nat.zero_le _) rfl (by rw [FU_1000]; omega)
        rintro k2 x s hx rfl
        unfold b_X8_queue_87 j_X8_queue_131 j_X8_queue_137
        rw [has_M (by omega) (by omega), Option.bind_some, if_bI, show nI x + (1 : Int32) = nI (x + 1) from nI_1 x, show nI j + (1 : Int32) = nI (j + 1) from nI_1 j]
        have main : (lfN V w j).testBit x = true → (f_X8_passesLater (sa S 27 F) (nI x) (nI w) (nI (lfN V w j))) = some (nI (qP V w x (lfN V w j))) ∧ nI (lfN V w j) &&& (((1 : Int32) <<< (nI x &&& 31)) ^^^ (-1 : Int32)) = nI (nd (lfN V w j) (2 ^ x)) ∧ inb (nI (nd (lfN V w j) (2 ^ x))) 32 = true ∧ inb (nI (lfN V w j)) 32 = true ∧ (sa S 27 F).2 27 (nI (nd (lfN V w j) (2 ^ x))).toNatClampNeg = nI (qT V w (lfN V w j) (nd (lfN V w j) (2 ^ x))) ∧ (sa S 27 F).2 27 (nI (lfN V w j)).toNatClampNeg = nI (qT V w (2 ^ V 2 0) (lfN V w j)) := by
          intro hb
          have hnd := nd_less (by omega : x < 8) hb
          refine ⟨later_M hMF hB hL hw (by omega) f1, by rw [sh1 x (by omega), nd_nI (by omega)], inb_nI (by omega) (by decide), inb_nI (by omega) (by decide), ?_, ?_⟩
          · rw [nI_clamp (by omega), sa_s]
            exact qH_dn hF (by omega : lfN V w j ≤ 2 ^ V 2 0) _ hnd
          · rw [nI_clamp (by omega), sa_s]
            exact hF _ f1
        have h1 := qP_le (V := V) (w := w) (l := x) (left := lfN V w j)
        have h2 := qT_le (V := V) (w := w) (lfN V w j) (nd (lfN V w j) (2 ^ x))
        have h3 := qT_le (V := V) (w := w) (2 ^ V 2 0) (lfN V w j)
        by_cases ex : x = l
        · subst ex
          obtain ⟨t1, t2, t3, t4, t5, t6⟩ := main n3
          left
          rw [if_pos n3, t1, Option.bind_some, t2, if_pos t3, if_pos t4, t5, t6, nI_add, if_pos (congrArg nI (of_decide_eq_true m2.2)), lfN, n1]
          rfl
        · have hm3 := m3 x (by omega)
          refine Or.inr ⟨by omega, _, rfl, ?_⟩
          by_cases hb : (lfN V w j).testBit x = true
          · obtain ⟨t1, t2, t3, t4, t5, t6⟩ := main hb
            rw [hb, Bool.true_and] at hm3
            have hne := of_decide_eq_false hm3
            rw [if_pos hb, t1, Option.bind_some, t2, if_pos t3, if_pos t4, t5, t6, nI_add, if_neg (fun q => hne ((nI_eq (by omega) (by omega)).mp q))]
          · rw [if_neg hb]
    · rw [if_neg (nI_nlt (by omega) hp31), if_neg (nI_nlt (by omega) hp31)]
