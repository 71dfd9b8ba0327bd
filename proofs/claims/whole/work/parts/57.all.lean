/-! PURE: what is asked of all learners, and of the row: the class -/
theorem lp_ex1 {A1 ρ : Type} {body : (A1 → Option ρ) → A1 → Option ρ} (n : Nat) (I : Nat → A1 → Prop) (Q : ρ → Prop) (h : ∀ (k : A1 → Option ρ) (i : Nat) (a1 : A1), i ≤ n → I i a1 → (∃ r, body k a1 = some r ∧ Q r) ∨ (i < n ∧ ∃ b1, I (i + 1) b1 ∧ body k a1 = k b1) ∨ (∃ j, i ≤ j ∧ j < n ∧ ∃ b1, I (j + 1) b1 ∧ body k a1 = k b1)) : ∀ (fuel i : Nat) (a1 : A1), i ≤ n → I i a1 → n - i < fuel → ∃ r, Lp1 body fuel a1 = some r ∧ Q r
  | 0, _, _, _, _, hf => absurd hf (Nat.not_lt_zero _)
  | fuel + 1, i, a1, hi, hI, hf => by
    rw [Lp1]
    rcases h (Lp1 body fuel) i a1 hi hI with e | ⟨hlt, b1, hI2, e⟩ | ⟨j, h1, h2, b1, hI2, e⟩
    · exact e
    · rw [e]
      exact lp_ex1 n I Q h fuel (i + 1) b1 (by omega) hI2 (by omega)
    · rw [e]
      exact lp_ex1 n I Q h fuel (j + 1) b1 (by omega) hI2 (by omega)
theorem lp_ex2 {A1 A2 ρ : Type} {body : (A1 → A2 → Option ρ) → A1 → A2 → Option ρ} (n : Nat) (I : Nat → A1 → A2 → Prop) (Q : ρ → Prop) (h : ∀ (k : A1 → A2 → Option ρ) (i : Nat) (a1 : A1) (a2 : A2), i ≤ n → I i a1 a2 → (∃ r, body k a1 a2 = some r ∧ Q r) ∨ (i < n ∧ ∃ b1 b2, I (i + 1) b1 b2 ∧ body k a1 a2 = k b1 b2) ∨ (∃ j, i ≤ j ∧ j < n ∧ ∃ b1 b2, I (j + 1) b1 b2 ∧ body k a1 a2 = k b1 b2)) : ∀ (fuel i : Nat) (a1 : A1) (a2 : A2), i ≤ n → I i a1 a2 → n - i < fuel → ∃ r, Lp2 body fuel a1 a2 = some r ∧ Q r
  | 0, _, _, _, _, _, hf => absurd hf (Nat.not_lt_zero _)
  | fuel + 1, i, a1, a2, hi, hI, hf => by
    rw [Lp2]
    rcases h (Lp2 body fuel) i a1 a2 hi hI with e | ⟨hlt, b1, b2, hI2, e⟩ | ⟨j, h1, h2, b1, b2, hI2, e⟩
    · exact e
    · rw [e]
      exact lp_ex2 n I Q h fuel (i + 1) b1 b2 (by omega) hI2 (by omega)
    · rw [e]
      exact lp_ex2 n I Q h fuel (j + 1) b1 b2 (by omega) hI2 (by omega)
theorem lp_ex3 {A1 A2 A3 ρ : Type} {body : (A1 → A2 → A3 → Option ρ) → A1 → A2 → A3 → Option ρ} (n : Nat) (I : Nat → A1 → A2 → A3 → Prop) (Q : ρ → Prop) (h : ∀ (k : A1 → A2 → A3 → Option ρ) (i : Nat) (a1 : A1) (a2 : A2) (a3 : A3), i ≤ n → I i a1 a2 a3 → (∃ r, body k a1 a2 a3 = some r ∧ Q r) ∨ (i < n ∧ ∃ b1 b2 b3, I (i + 1) b1 b2 b3 ∧ body k a1 a2 a3 = k b1 b2 b3) ∨ (∃ j, i ≤ j ∧ j < n ∧ ∃ b1 b2 b3, I (j + 1) b1 b2 b3 ∧ body k a1 a2 a3 = k b1 b2 b3)) : ∀ (fuel i : Nat) (a1 : A1) (a2 : A2) (a3 : A3), i ≤ n → I i a1 a2 a3 → n - i < fuel → ∃ r, Lp3 body fuel a1 a2 a3 = some r ∧ Q r
  | 0, _, _, _, _, _, _, hf => absurd hf (Nat.not_lt_zero _)
  | fuel + 1, i, a1, a2, a3, hi, hI, hf => by
    rw [Lp3]
    rcases h (Lp3 body fuel) i a1 a2 a3 hi hI with e | ⟨hlt, b1, b2, b3, hI2, e⟩ | ⟨j, h1, h2, b1, b2, b3, hI2, e⟩
    · exact e
    · rw [e]
      exact lp_ex3 n I Q h fuel (i + 1) b1 b2 b3 (by omega) hI2 (by omega)
    · rw [e]
      exact lp_ex3 n I Q h fuel (j + 1) b1 b2 b3 (by omega) hI2 (by omega)
theorem lp_ex4 {A1 A2 A3 A4 ρ : Type} {body : (A1 → A2 → A3 → A4 → Option ρ) → A1 → A2 → A3 → A4 → Option ρ} (n : Nat) (I : Nat → A1 → A2 → A3 → A4 → Prop) (Q : ρ → Prop) (h : ∀ (k : A1 → A2 → A3 → A4 → Option ρ) (i : Nat) (a1 : A1) (a2 : A2) (a3 : A3) (a4 : A4), i ≤ n → I i a1 a2 a3 a4 → (∃ r, body k a1 a2 a3 a4 = some r ∧ Q r) ∨ (i < n ∧ ∃ b1 b2 b3 b4, I (i + 1) b1 b2 b3 b4 ∧ body k a1 a2 a3 a4 = k b1 b2 b3 b4) ∨ (∃ j, i ≤ j ∧ j < n ∧ ∃ b1 b2 b3 b4, I (j + 1) b1 b2 b3 b4 ∧ body k a1 a2 a3 a4 = k b1 b2 b3 b4)) : ∀ (fuel i : Nat) (a1 : A1) (a2 : A2) (a3 : A3) (a4 : A4), i ≤ n → I i a1 a2 a3 a4 → n - i < fuel → ∃ r, Lp4 body fuel a1 a2 a3 a4 = some r ∧ Q r
  | 0, _, _, _, _, _, _, _, hf => absurd hf (Nat.not_lt_zero _)
  | fuel + 1, i, a1, a2, a3, a4, hi, hI, hf => by
    rw [Lp4]
    rcases h (Lp4 body fuel) i a1 a2 a3 a4 hi hI with e | ⟨hlt, b1, b2, b3, b4, hI2, e⟩ | ⟨j, h1, h2, b1, b2, b3, b4, hI2, e⟩
    · exact e
    · rw [e]
      exact lp_ex4 n I Q h fuel (i + 1) b1 b2 b3 b4 (by omega) hI2 (by omega)
    · rw [e]
      exact lp_ex4 n I Q h fuel (j + 1) b1 b2 b3 b4 (by omega) hI2 (by omega)
theorem lp_ex5 {A1 A2 A3 A4 A5 ρ : Type} {body : (A1 → A2 → A3 → A4 → A5 → Option ρ) → A1 → A2 → A3 → A4 → A5 → Option ρ} (n : Nat) (I : Nat → A1 → A2 → A3 → A4 → A5 → Prop) (Q : ρ → Prop) (h : ∀ (k : A1 → A2 → A3 → A4 → A5 → Option ρ) (i : Nat) (a1 : A1) (a2 : A2) (a3 : A3) (a4 : A4) (a5 : A5), i ≤ n → I i a1 a2 a3 a4 a5 → (∃ r, body k a1 a2 a3 a4 a5 = some r ∧ Q r) ∨ (i < n ∧ ∃ b1 b2 b3 b4 b5, I (i + 1) b1 b2 b3 b4 b5 ∧ body k a1 a2 a3 a4 a5 = k b1 b2 b3 b4 b5) ∨ (∃ j, i ≤ j ∧ j < n ∧ ∃ b1 b2 b3 b4 b5, I (j + 1) b1 b2 b3 b4 b5 ∧ body k a1 a2 a3 a4 a5 = k b1 b2 b3 b4 b5)) : ∀ (fuel i : Nat) (a1 : A1) (a2 : A2) (a3 : A3) (a4 : A4) (a5 : A5), i ≤ n → I i a1 a2 a3 a4 a5 → n - i < fuel → ∃ r, Lp5 body fuel a1 a2 a3 a4 a5 = some r ∧ Q r
  | 0, _, _, _, _, _, _, _, _, hf => absurd hf (Nat.not_lt_zero _)
  | fuel + 1, i, a1, a2, a3, a4, a5, hi, hI, hf => by
    rw [Lp5]
    rcases h (Lp5 body fuel) i a1 a2 a3 a4 a5 hi hI with e | ⟨hlt, b1, b2, b3, b4, b5, hI2, e⟩ | ⟨j, h1, h2, b1, b2, b3, b4, b5, hI2, e⟩
    · exact e
    · rw [e]
      exact lp_ex5 n I Q h fuel (i + 1) b1 b2 b3 b4 b5 (by omega) hI2 (by omega)
    · rw [e]
      exact lp_ex5 n I Q h fuel (j + 1) b1 b2 b3 b4 b5 (by omega) hI2 (by omega)
theorem sa_s {S : OS} {k : Nat} {f : Nat → Int32} : (sa S k f).2 k = f := by simp [sa, upA]
theorem sa_n {S : OS} {k j : Nat} {f : Nat → Int32} (h : j ≠ k) : (sa S k f).2 j = S.2 j := by simp [sa, upA, h]
theorem sa_i {S : OS} {k : Nat} {f : Nat → Int32} : (sa S k f).1 = S.1 := rfl
theorem su_s {S : OS} {k : Nat} {v : Int32} : (su S k v).1 k = v := by simp [su, upd]
theorem su_n {S : OS} {k j : Nat} {v : Int32} (h : j ≠ k) : (su S k v).1 j = S.1 j := by simp [su, upd, h]
theorem su_a {S : OS} {k : Nat} {v : Int32} : (su S k v).2 = S.2 := rfl
def akN (V : Nat → Nat → Nat) : Nat → Nat
  | 0 => 0
  | n + 1 => akN V n + pc 8 (V 11 n)
theorem allk_C {V : Nat → Nat → Nat} {S T : OS} (hT : TR V T) (hB : WB V) (hL : WL V) : f_X1_allKnown S T = some (nI (akN V (V 2 0))) := by
  have h5 := hB.2.2.1
  unfold f_X1_allKnown
  refine lp_run2 (V 2 0) (fun i a s => a = nI (akN V i) ∧ s = nI i) _ ?_ FU 0 _ _ (Nat.zero_le _) ⟨rfl, rfl⟩ (by rw [FU_1000]; omega)
  rintro k i a s hi ⟨rfl, rfl⟩
  unfold b_X1_allKnown_4
  rw [hT.1 2 (by decide)]
  by_cases e : i = V 2 0
  · left
    subst e
    rw [if_pos (nI_le (Nat.le_refl _) (by omega))]
  · have hlt : i < V 2 0 := by omega
    rw [if_neg (nI_ge hlt (by omega)), at_in (by omega : i < 5) (by decide), Option.bind_some, hT.2 11 (by decide) (by decide) i (by show i < 5; omega), bc_C _ (kn_lt hB hL (by omega)), Option.bind_some, nI_add]
    exact Or.inr ⟨hlt, _, _, ⟨rfl, nI_1 i⟩, rfl⟩
/-- the queue: by sets of learners still to come, how many pass at best -/
def qP (V : Nat → Nat → Nat) (w l left : Nat) : Nat := if paB V (V 9 w) (V 10 l) (V 11 l) ((V 3 0 + (V 2 0 - pc 8 left)) % 24) (V 4 0) then 1 else 0
def qM (V : Nat → Nat → Nat) (w : Nat) (tb : Nat → Nat) (left : Nat) : Nat → Nat
  | 0 => 0
  | n + 1 => if left.testBit n then max (qM V w tb left n) (qP V w n left + tb (nd left (2 ^ n))) else qM V w tb left n
def qT (V : Nat → Nat → Nat) (w : Nat) : Nat → Nat → Nat
  | 0, _ => 0
  | i + 1, j => if j = i then qM V w (qT V w i) i (V 2 0) else qT V w i j
theorem qP_le {V : Nat → Nat → Nat} {w l left : Nat} : qP V w l left ≤ 1 := by
  unfold qP
  split <;> omega
theorem qM_le {V : Nat → Nat → Nat} {w left c : Nat} {tb : Nat → Nat} (h : ∀ j, tb j ≤ c) : ∀ n, qM V w tb left n ≤ c + 1
  | 0 => Nat.zero_le _
  | n + 1 => by
    have h1 := qM_le (V := V) (w := w) (left := left) h n
    have h2 := h (nd left (2 ^ n))
    have h3 := qP_le (V := V) (w := w) (l := n) (left := left)
    rw [qM]
    split <;> omega
theorem qT_le {V : Nat → Nat → Nat} {w : Nat} : ∀ i j, qT V w i j ≤ i
  | 0, _ => Nat.le_refl 0
  | i + 1, j => by
    rw [qT]
    split
    · exact qM_le (fun j => qT_le i j) _
    · exact Nat.le_trans (qT_le i j) (by omega)
theorem qT_st {V : Nat → Nat → Nat} {w j : Nat} : ∀ {i : Nat}, j < i → qT V w i j = qT V w (j + 1) j
  | i + 1, h => by
    by_cases e : j = i
    · subst e; rfl
    · rw [qT, if_neg e, qT_st (by omega : j < i)]
theorem qM_cg {V : Nat → Nat → Nat} {w left : Nat} {tb tb' : Nat → Nat} (h : ∀ j, j < left → tb j = tb' j) (hl : left < 256) : ∀ n, n ≤ 8 → qM V w tb left n = qM V w tb' left n
  | 0, _ => rfl
  | n + 1, hn => by
    rw [qM, qM, qM_cg h hl n (by omega)]
    by_cases e : left.testBit n = true
    · have hlt : nd left (2 ^ n) < left := by
        have h1 : nd left (2 ^ n) ≤ left := Nat.and_le_left
        rcases Nat.lt_or_eq_of_le h1 with h2 | h2
        · exact h2
        · exfalso
          have h3 := nd_bit (a := left) (b := 2 ^ n) (i := n) (by omega)
          rw [h2, e, Nat.testBit_two_pow_self] at h3
          exact absurd h3 (by decide)
      rw [if_pos e, if_pos e, h _ hlt]
    · rw [if_neg e, if_neg e]
theorem nd_less {left n : Nat} (hn : n < 8) (e : left.testBit n = true) : nd left (2 ^ n) < left := by
  have h1 : nd left (2 ^ n) ≤ left := Nat.and_le_left
  rcases Nat.lt_or_eq_of_le h1 with h2 | h2
  · exact h2
  · exfalso
    have h3 := nd_bit (a := left) (b := 2 ^ n) (i := n) hn
    rw [h2, e, Nat.testBit_two_pow_self] at h3
    exact absurd h3 (by decide)
theorem qM_get {V : Nat → Nat → Nat} {w left : Nat} {tb : Nat → Nat} : ∀ {n : Nat}, (∃ l, l < n ∧ left.testBit l = true) → ∃ l, l < n ∧ left.testBit l = true ∧ qP V w l left + tb (nd left (2 ^ l)) = qM V w tb left n
  | n + 1, h => by
    rw [qM]
    by_cases e : left.testBit n = true
    · rw [if_pos e]
      by_cases e2 : qM V w tb left n ≤ qP V w n left + tb (nd left (2 ^ n))
      · exact ⟨n, by omega, e, by omega⟩
      · by_cases e3 : ∃ l, l < n ∧ left.testBit l = true
        · obtain ⟨l, h1, h2, h3⟩ := qM_get (V := V) (w := w) (tb := tb) e3
          exact ⟨l, by omega, h2, by omega⟩
        · exfalso
          have h0 : ∀ m, m ≤ n → qM V w tb left m = 0 := by
            intro m
            induction m with
            | zero => intro _; rfl
            | succ m ih =>
              intro hm
              rw [qM, if_neg (fun q => e3 ⟨m, by omega, q⟩), ih (by omega)]
          have := h0 n (Nat.le_refl n)
          omega
    · rw [if_neg e]
      obtain ⟨l, h1, h2⟩ := h
      have hl : l < n := by
        rcases Nat.lt_or_eq_of_le (Nat.lt_succ_iff.mp h1) with q | q
        · exact q
        · subst q; exact absurd h2 e
      obtain ⟨l, h1, h2, h3⟩ := qM_get (V := V) (w := w) (tb := tb) ⟨l, hl, h2⟩
      exact ⟨l, by omega, h2, h3⟩
theorem p25 {V : Nat → Nat → Nat} (hB : WB V) : 2 ^ V 2 0 ≤ 32 := Nat.le_trans (Nat.pow_le_pow_right (by decide) hB.2.2.1) (by decide : (2 : Nat) ^ 5 ≤ 32)
/-- the row F holds the table below i -/
def qH (V : Nat → Nat → Nat) (w i : Nat) (F : Nat → Int32) : Prop := ∀ j, j < i → F j = nI (qT V w i j)
theorem mwn_C {V : Nat → Nat → Nat} {S T : OS} (hT : TR V T) (hB : WB V) (hL : WL V) {w left l place : Nat} (hw : w < V 1 0) (hl : l < V 2 0) (hleft : left < 2 ^ V 2 0) (hbit : left.testBit l = true) (hp : place = V 2 0 - pc 8 left) (hF : qH V w left (S.2 1)) : f_X1_mostWithNext S T (nI left) (nI l) (nI w) (nI place) = some (nI (qP V w l left + qT V w left (nd left (2 ^ l)))) := by
  have h5 := hB.2.2.1
  have h25 := p25 hB
  have hh := hL.1
  have hlt := nd_less (by omega : l < 8) hbit
  unfold f_X1_mostWithNext
  rw [hT.1 3 (by decide), nI_add, show (24 : Int32) = nI 24 from rfl, rem_nI (by omega) (by decide) (by decide), pa_C hT hB hL (by omega) hw (Nat.mod_lt _ (by decide)), Option.bind_some, if_bI]
  unfold j_X1_mostWithNext_34
  rw [sh1 l (by omega), nd_nI (by omega), at_in (by omega : nd left (2 ^ l) < 32) (by decide), Option.bind_some, Option.bind_some, hF _ hlt, hp]
  unfold qP
  split
  · exact congrArg some (nI_add 1 _)
  · exact congrArg some (nI_add 0 _)
theorem find_C {V : Nat → Nat → Nat} {S T : OS} (hT : TR V T) (hB : WB V) (hL : WL V) {w : Nat} (hw : w < V 1 0) : ∃ S', f_X1_findMostOfLast S T (nI w) = some S' ∧ qH V w (2 ^ V 2 0) (S'.2 1) := by
  have h5 := hB.2.2.1
  have h25 := p25 hB
  have hp0 := Nat.two_pow_pos (V 2 0)
  unfold f_X1_findMostOfLast
  rw [show (0 : Int32) = nI 0 from rfl, store_in (by decide) (by decide), Option.bind_some]
  refine lp_ex2 (2 ^ V 2 0) (fun i a (S : OS) => a = nI i ∧ 1 ≤ i ∧ qH V w i (S.2 1)) (fun S' : OS => qH V w (2 ^ V 2 0) (S'.2 1)) ?_ FU 1 _ _ hp0 ⟨rfl, Nat.le_refl 1, fun j hj => ?_⟩ (by rw [FU_1000]; omega)
  · rintro k i a S hi ⟨rfl, h1, hF⟩
    unfold b_X1_findMostOfLast_11
    rw [hT.1 2 (by decide), sh1 _ (by omega)]
    by_cases e : i = 2 ^ V 2 0
    · left
      subst e
      rw [if_pos (nI_le (Nat.le_refl _) (by omega))]
      exact ⟨_, rfl, hF⟩
    · have hlt : i < 2 ^ V 2 0 := by omega
      rw [if_neg (nI_ge hlt (by omega)), bc_C i (by omega), Option.bind_some]
      right; left
      refine ⟨hlt, nI (i + 1), sa S 1 (upd (S.2 1) i (nI (qM V w (qT V w i) i (V 2 0)))), ⟨rfl, by omega, fun j hj => ?_⟩, ?_⟩
      · rw [sa_s, qT]
        by_cases ej : j = i
        · subst ej; rw [upd_s, if_pos rfl]
        · rw [upd_n ej, if_neg ej]; exact hF j (by omega)
      · have hpl : pc 8 i ≤ V 2 0 := by
          have hz : ∀ n, V 2 0 ≤ n → pc n i ≤ V 2 0 := by
            intro n
            induction n with
            | zero => intro _; rw [pc]; omega
            | succ n ih =>
              intro hn
              by_cases en : V 2 0 ≤ n
              · rw [pc, Nat.testBit_lt_two_pow (Nat.lt_of_lt_of_le hlt (Nat.pow_le_pow_right (by decide) en))]
                simpa using ih en
              · have : V 2 0 = n + 1 := by omega
                have := pc_le (n + 1) i
                omega
          exact hz 8 (by omega)
        rw [pk_sub hpl]
        have hq := fun n => qM_le (V := V) (w := w) (left := i) (c := i) (tb := qT V w i) (fun j => qT_le i j) n
        refine lp_run2 (V 2 0) (fun m a s => a = nI (qM V w (qT V w i) i m) ∧ s = nI m) _ ?_ FU 0 _ _ (Nat.zero_le _) ⟨rfl, rfl⟩ (by rw [FU_1000]; omega)
        rintro k2 m a s hm ⟨rfl, rfl⟩
        have hq1 := hq m
        unfold b_X1_findMostOfLast_43 j_X1_findMostOfLast_86 j_X1_findMostOfLast_80
        rw [hT.1 2 (by decide)]
        by_cases e2 : m = V 2 0
        · left
          subst e2
          rw [if_pos (nI_le (Nat.le_refl _) (by omega)), store_in (by omega) (by decide), Option.bind_some, show nI i + (1 : Int32) = nI (i + 1) from nI_1 i]
        · have hlt2 : m < V 2 0 := by omega
          rw [if_neg (nI_ge hlt2 (by omega)), has_C (by omega) (by omega), Option.bind_some, if_bI, show nI m + (1 : Int32) = nI (m + 1) from nI_1 m]
          refine Or.inr ⟨hlt2, ?_⟩
          by_cases e3 : i.testBit m = true
          · have h3 := qT_le (V := V) (w := w) i (nd i (2 ^ m))
            have h4 := qP_le (V := V) (w := w) (l := m) (left := i)
            rw [if_pos e3, mwn_C hT hB hL hw hlt2 hlt e3 rfl hF, Option.bind_some, max_nI (by omega) (by omega)]
            exact ⟨_, _, ⟨by rw [qM, if_pos e3], rfl⟩, rfl⟩
          · rw [if_neg e3]
            exact ⟨_, _, ⟨by rw [qM, if_neg e3], rfl⟩, rfl⟩
  · have : j = 0 := by omega
    subst this
    rw [sa_s, upd_s]
    have h0 : ∀ n, qM V w (qT V w 0) 0 n = 0 := by
      intro n
      induction n with
      | zero => rfl
      | succ n ih => rw [qM, if_neg (by simp), ih]
    rw [qT, if_pos rfl, h0]
/-- who comes next -/
def nxN (V : Nat → Nat → Nat) (w left : Nat) : Option Nat := fst (fun l => left.testBit l && decide (qP V w l left + qT V w left (nd left (2 ^ l)) = qT V w (2 ^ V 2 0) left)) (V 2 0)
theorem nx_some {V : Nat → Nat → Nat} {w left : Nat} (hleft : left < 2 ^ V 2 0) (hl0 : ∃ l, l < V 2 0 ∧ left.testBit l = true) : ∃ l, nxN V w left = some l ∧ l < V 2 0 ∧ left.testBit l = true := by
  obtain ⟨l, h1, h2, h3⟩ := qM_get (V := V) (w := w) (tb := qT V w left) hl0
  have hq : qT V w (2 ^ V 2 0) left = qM V w (qT V w left) left (V 2 0) := by rw [qT_st hleft, qT, if_pos rfl]
  cases hn : nxN V w left with
  | some b =>
    obtain ⟨g1, g2, -⟩ := fst_ok hn
    rw [Bool.and_eq_true] at g2
    exact ⟨b, rfl, g1, g2.1⟩
  | none =>
    exfalso
    have : ∀ m, l < m → fst (fun l => left.testBit l && decide (qP V w l left + qT V w left (nd left (2 ^ l)) = qT V w (2 ^ V 2 0) left)) m ≠ none := by
      intro m
      induction m with
      | zero => intro h; omega
      | succ m ih =>
        intro hm
        rw [fst]
        by_cases e : l = m
        · subst e
          cases fst (fun l => left.testBit l && decide (qP V w l left + qT V w left (nd left (2 ^ l)) = qT V w (2 ^ V 2 0) left)) l with
          | some _ => exact fun q => by cases q
          | none => rw [h2, hq, h3]; simp
        · cases hz : fst (fun l => left.testBit l && decide (qP V w l left + qT V w left (nd left (2 ^ l)) = qT V w (2 ^ V 2 0) left)) m with
          | some _ => exact fun q => by cases q
          | none => exact absurd hz (ih (by omega))
    exact this (V 2 0) h1 hn
theorem qH_dn {V : Nat → Nat → Nat} {w i m : Nat} {F : Nat → Int32} (h : qH V w m F) (hi : i ≤ m) : qH V w i F := fun j hj => by
  rw [h j (by omega), qT_st (by omega : j < m), qT_st hj]
theorem next_C {V : Nat → Nat → Nat} {S T : OS} (hT : TR V T) (hB : WB V) (hL : WL V) {w left place : Nat} (hw : w < V 1 0) (hleft : left < 2 ^ V 2 0) (hp : place = V 2 0 - pc 8 left) (hF : qH V w (2 ^ V 2 0) (S.2 1)) : f_X1_nextOf S T (nI left) (nI w) (nI place) = some (ob 0 (nxN V w left)) := by
  have h5 := hB.2.2.1
  have h25 := p25 hB
  unfold f_X1_nextOf
  refine lp_run1 (V 2 0) (fun i s => s = nI i ∧ ∀ j, j < i → (left.testBit j && decide (qP V w j left + qT V w left (nd left (2 ^ j)) = qT V w (2 ^ V 2 0) left)) = false) _ ?_ FU 0 _ (Nat.zero_le _) ⟨rfl, fun j hj => by omega⟩ (by rw [FU_1000]; omega)
  rintro k i s hi ⟨rfl, hno⟩
  unfold b_X1_nextOf_3 j_X1_nextOf_47
  rw [hT.1 2 (by decide)]
  by_cases e : i = V 2 0
  · left
    subst e
    rw [if_pos (nI_le (Nat.le_refl _) (by omega))]
    unfold nxN
    rw [fst_no hno]
    rfl
  · have hlt : i < V 2 0 := by omega
    rw [if_neg (nI_ge hlt (by omega)), has_C (by omega) (by omega), Option.bind_some, if_bI, show nI i + (1 : Int32) = nI (i + 1) from nI_1 i]
    by_cases e2 : left.testBit i = true
    · have h3 := qT_le (V := V) (w := w) left (nd left (2 ^ i))
      have h4 := qP_le (V := V) (w := w) (l := i) (left := left)
      have h7 := qT_le (V := V) (w := w) (2 ^ V 2 0) left
      rw [if_pos e2, mwn_C hT hB hL hw hlt hleft e2 hp (qH_dn hF (by omega)), Option.bind_some, at_in (by omega : left < 32) (by decide), Option.bind_some, hF left hleft]
      by_cases e3 : qP V w i left + qT V w left (nd left (2 ^ i)) = qT V w (2 ^ V 2 0) left
      · left
        rw [if_pos (congrArg nI e3)]
        unfold nxN
        rw [fst_at hno (by rw [e2, e3]; simp) hlt]
        rfl
      · rw [if_neg (fun q => e3 ((nI_eq (by omega) (by omega)).mp q))]
        refine Or.inr ⟨hlt, _, ⟨rfl, fun j hj => ?_⟩, rfl⟩
        by_cases ej : j = i
        · subst ej; rw [e2]; simp [e3]
        · exact hno j (by omega)
    · rw [if_neg e2]
      refine Or.inr ⟨hlt, _, ⟨rfl, fun j hj => ?_⟩, rfl⟩
      by_cases ej : j = i
      · subst ej
        have : left.testBit j = false := by simpa using e2
        rw [this]; rfl
      · exact hno j (by omega)
