/-! PURE: numbers, reads and writes -/
theorem li_nI (n : Nat) : (OfNat.ofNat n : Int32) = nI n := rfl
def bI (b : Bool) : Int32 := if b = true then 1 else 0
theorem bI_t : bI true = 1 := rfl
theorem bI_f : bI false = 0 := rfl
theorem bI_e0 (b : Bool) : (bI b = 0) ↔ b = false := by cases b <;> decide
theorem bI_e1 (b : Bool) : (bI b = 1) ↔ b = true := by cases b <;> decide
theorem bI_isB (b : Bool) : isB (bI b) = true := by cases b <;> decide
theorem if_bI {α : Type} (b : Bool) (x y : α) : (if bI b = 0 then x else y) = if b = true then y else x := by cases b <;> rfl
theorem so_if {α : Type} (c : Prop) [Decidable c] (x y : α) : (if c then some x else some y) = some (if c then x else y) := by by_cases h : c <;> simp [h]
theorem inb_nI {k N : Nat} (h : k < N) (hN : N < 2 ^ 31) : inb (nI k) N = true := decide_eq_true (nI_in h hN)
theorem at_in {N k : Nat} {f : Nat → Int32} (h : k < N) (hN : N < 2 ^ 31) : f_X7_at N f (nI k) = some (f k) := by
  unfold f_X7_at
  rw [if_neg (nI_pos (by omega)), if_neg (nI_ge h hN), if_pos (inb_nI h hN), nI_clamp (by omega)]
theorem store_in {N k : Nat} {f : Nat → Int32} {v : Int32} (h : k < N) (hN : N < 2 ^ 31) : f_X7_store N f (nI k) v = some (upd f k v) := by
  unfold f_X7_store
  rw [if_neg (nI_pos (by omega)), if_neg (nI_ge h hN), if_pos (inb_nI h hN), nI_clamp (by omega)]
theorem upd_s {f : Nat → Int32} {k : Nat} {x : Int32} : upd f k x k = x := by simp [upd]
theorem upd_n {f : Nat → Int32} {k j : Nat} {x : Int32} (h : j ≠ k) : upd f k x j = f j := by simp [upd, h]
theorem upd_back (f : Nat → Int32) (k : Nat) (x : Int32) : upd (upd f k x) k (f k) = f := by
  funext j
  by_cases h : j = k
  · subst h; simp [upd]
  · simp [upd, h]
theorem upA_s {α : Type} {f : Nat → α} {k : Nat} {x : α} : upA f k x k = x := by simp [upA]
theorem upA_n {α : Type} {f : Nat → α} {k j : Nat} {x : α} (h : j ≠ k) : upA f k x j = f j := by simp [upA, h]
theorem upA_back {α : Type} (f : Nat → α) (k : Nat) (x : α) : upA (upA f k x) k (f k) = f := by
  funext j
  by_cases h : j = k
  · subst h; simp [upA]
  · simp [upA, h]
theorem upA_id {α : Type} (f : Nat → α) (k : Nat) : upA f k (f k) = f := by
  funext j
  by_cases h : j = k
  · subst h; simp [upA]
  · simp [upA, h]
/-! bits -/
theorem sh1 : ∀ k, k < 31 → (1 : Int32) <<< (nI k &&& 31) = nI (2 ^ k) := by decide +kernel
theorem bit_nI {b k : Nat} (hb : b < 2 ^ 31) (hk : k < 31) : ((nI b >>> (nI k &&& 31)) &&& (1 : Int32)) = bI (b.testBit k) := by
  have e : ((nI k &&& 31).toBitVec.smod 32).toNat = k := by
    have h : ∀ j, j < 31 → ((nI j &&& 31).toBitVec.smod 32).toNat = j := by decide +kernel
    exact h k hk
  rw [pk_shrN hb _ k e, show (1 : Int32) = nI 1 from rfl, pk_andN (n := b / 2 ^ k) (Nat.lt_of_le_of_lt (Nat.div_le_self _ _) (by omega)) 1 (by decide)]
  have h2 : b / 2 ^ k % 2 ^ 1 = if b.testBit k then 1 else 0 := by
    rw [Nat.testBit, Nat.shiftRight_eq_div_pow]
    have := Nat.and_comm 1 (b / 2 ^ k)
    rw [this, Nat.and_one_is_mod]
    rcases Nat.mod_two_eq_zero_or_one (b / 2 ^ k) with h | h <;> simp [h]
  rw [h2]
  cases b.testBit k <;> rfl
theorem has_C {b k : Nat} (hb : b < 2 ^ 31) (hk : k < 31) : f_X7_has (nI b) (nI k) = some (bI (b.testBit k)) := by
  unfold f_X7_has
  rw [bit_nI hb hk]
  cases b.testBit k <;> rfl
theorem has_M {b k : Nat} (hb : b < 2 ^ 31) (hk : k < 31) : f_X8_has (nI b) (nI k) = some (bI (b.testBit k)) := by
  unfold f_X8_has
  rw [bit_nI hb hk]
  cases b.testBit k <;> rfl
theorem or_nI (a b : Nat) : nI a ||| nI b = nI (a ||| b) := by
  apply Int32.toBitVec_inj.mp
  show BitVec.ofNat 32 a ||| BitVec.ofNat 32 b = BitVec.ofNat 32 (a ||| b)
  exact (BitVec.ofNat_or ..).symm
theorem and_nI (a b : Nat) : nI a &&& nI b = nI (a &&& b) := by
  apply Int32.toBitVec_inj.mp
  show BitVec.ofNat 32 a &&& BitVec.ofNat 32 b = BitVec.ofNat 32 (a &&& b)
  exact (BitVec.ofNat_and ..).symm
theorem xor_nI (a b : Nat) : nI a ^^^ nI b = nI (a ^^^ b) := by
  apply Int32.toBitVec_inj.mp
  show BitVec.ofNat 32 a ^^^ BitVec.ofNat 32 b = BitVec.ofNat 32 (a ^^^ b)
  exact (BitVec.ofNat_xor ..).symm
/-- how many bits -/
def pc : Nat → Nat → Nat
  | 0, _ => 0
  | n + 1, b => pc n b + if b.testBit n then 1 else 0
theorem bc_C : ∀ b, b < 256 → f_J6_bitCount_0f7a4 (nI b) = some (nI (pc 8 b)) := by decide +kernel
theorem bc_M : ∀ b, b < 256 → f_X8_bits (nI b) = some (nI (pc 8 b)) := by decide +kernel
theorem pc_le : ∀ n b, pc n b ≤ n
  | 0, _ => Nat.le_refl 0
  | n + 1, b => by
    have h := pc_le n b
    rw [pc]
    split <;> omega
/-! folds -/
def sb (g : Nat → Nat) (bits : Nat) : Nat → Nat
  | 0 => 0
  | n + 1 => sb g bits n + if bits.testBit n then g n else 0
def bs (p : Nat → Bool) : Nat → Nat
  | 0 => 0
  | n + 1 => bs p n ||| if p n then 2 ^ n else 0
def alB (p : Nat → Bool) : Nat → Bool
  | 0 => true
  | n + 1 => alB p n && p n
theorem alB_no {p : Nat → Bool} : ∀ {n i : Nat}, i < n → p i = false → alB p n = false
  | n + 1, i, h, hp => by
    rw [alB]
    by_cases e : i = n
    · subst e; rw [hp, Bool.and_false]
    · rw [alB_no (by omega) hp, Bool.false_and]
theorem alB_at {p : Nat → Bool} : ∀ {n i : Nat}, alB p n = true → i < n → p i = true
  | n + 1, i, h, hi => by
    rw [alB, Bool.and_eq_true] at h
    by_cases e : i = n
    · subst e; exact h.2
    · exact alB_at h.1 (by omega)
theorem alB_cg {p q : Nat → Bool} : ∀ {n : Nat}, (∀ i, i < n → p i = q i) → alB p n = alB q n
  | 0, _ => rfl
  | n + 1, h => by rw [alB, alB, alB_cg (fun i hi => h i (by omega)), h n (by omega)]
theorem alB_of {p : Nat → Bool} : ∀ {n : Nat}, (∀ i, i < n → p i = true) → alB p n = true
  | 0, _ => rfl
  | n + 1, h => by rw [alB, alB_of (fun i hi => h i (by omega)), h n (by omega)]; rfl
theorem sb_cg {g g' : Nat → Nat} {bits : Nat} : ∀ {n : Nat}, (∀ i, i < n → bits.testBit i = true → g i = g' i) → sb g bits n = sb g' bits n
  | 0, _ => rfl
  | n + 1, h => by
    rw [sb, sb, sb_cg (fun i hi => h i (by omega))]
    by_cases e : bits.testBit n = true
    · rw [if_pos e, if_pos e, h n (by omega) e]
    · rw [if_neg e, if_neg e]
theorem sb_le {g : Nat → Nat} {bits c : Nat} : ∀ {n : Nat}, (∀ i, i < n → g i ≤ c) → sb g bits n ≤ n * c
  | 0, _ => Nat.zero_le _
  | n + 1, h => by
    have h1 := sb_le (g := g) (bits := bits) (c := c) (n := n) (fun i hi => h i (by omega))
    have h2 := h n (by omega)
    rw [sb, Nat.succ_mul]
    split <;> omega
theorem bs_lt {p : Nat → Bool} : ∀ {n : Nat}, bs p n < 2 ^ n
  | 0 => Nat.one_pos
  | n + 1 => by
    have h := bs_lt (p := p) (n := n)
    have h2 : 2 ^ (n + 1) = 2 ^ n * 2 := Nat.pow_succ ..
    have h3 : 0 < 2 ^ n := Nat.two_pow_pos n
    rw [bs]
    refine Nat.or_lt_two_pow ?_ ?_
    · omega
    · split <;> omega
theorem bs_cg {p q : Nat → Bool} : ∀ {n : Nat}, (∀ i, i < n → p i = q i) → bs p n = bs q n
  | 0, _ => rfl
  | n + 1, h => by rw [bs, bs, bs_cg (fun i hi => h i (by omega)), h n (by omega)]
theorem FU_1000 : FU = 1000 := rfl
theorem lp_run1 {A1 ρ : Type} {body : (A1 → Option ρ) → A1 → Option ρ} (n : Nat) (I : Nat → A1 → Prop) (res : Option ρ) (h : ∀ (k : A1 → Option ρ) (i : Nat) (a1 : A1), i ≤ n → I i a1 → body k a1 = res ∨ (i < n ∧ ∃ b1, I (i + 1) b1 ∧ body k a1 = k b1)) : ∀ (fuel i : Nat) (a1 : A1), i ≤ n → I i a1 → n - i < fuel → Lp1 body fuel a1 = res
  | 0, _, _, _, _, hf => absurd hf (Nat.not_lt_zero _)
  | fuel + 1, i, a1, hi, hI, hf => by
    rw [Lp1]
    rcases h (Lp1 body fuel) i a1 hi hI with e | ⟨hlt, b1, hI2, e⟩
    · exact e
    · rw [e]
      exact lp_run1 n I res h fuel (i + 1) b1 (by omega) hI2 (by omega)
theorem lp_run2 {A1 A2 ρ : Type} {body : (A1 → A2 → Option ρ) → A1 → A2 → Option ρ} (n : Nat) (I : Nat → A1 → A2 → Prop) (res : Option ρ) (h : ∀ (k : A1 → A2 → Option ρ) (i : Nat) (a1 : A1) (a2 : A2), i ≤ n → I i a1 a2 → body k a1 a2 = res ∨ (i < n ∧ ∃ b1 b2, I (i + 1) b1 b2 ∧ body k a1 a2 = k b1 b2)) : ∀ (fuel i : Nat) (a1 : A1) (a2 : A2), i ≤ n → I i a1 a2 → n - i < fuel → Lp2 body fuel a1 a2 = res
  | 0, _, _, _, _, _, hf => absurd hf (Nat.not_lt_zero _)
  | fuel + 1, i, a1, a2, hi, hI, hf => by
    rw [Lp2]
    rcases h (Lp2 body fuel) i a1 a2 hi hI with e | ⟨hlt, b1, b2, hI2, e⟩
    · exact e
    · rw [e]
      exact lp_run2 n I res h fuel (i + 1) b1 b2 (by omega) hI2 (by omega)
theorem lp_run3 {A1 A2 A3 ρ : Type} {body : (A1 → A2 → A3 → Option ρ) → A1 → A2 → A3 → Option ρ} (n : Nat) (I : Nat → A1 → A2 → A3 → Prop) (res : Option ρ) (h : ∀ (k : A1 → A2 → A3 → Option ρ) (i : Nat) (a1 : A1) (a2 : A2) (a3 : A3), i ≤ n → I i a1 a2 a3 → body k a1 a2 a3 = res ∨ (i < n ∧ ∃ b1 b2 b3, I (i + 1) b1 b2 b3 ∧ body k a1 a2 a3 = k b1 b2 b3)) : ∀ (fuel i : Nat) (a1 : A1) (a2 : A2) (a3 : A3), i ≤ n → I i a1 a2 a3 → n - i < fuel → Lp3 body fuel a1 a2 a3 = res
  | 0, _, _, _, _, _, _, hf => absurd hf (Nat.not_lt_zero _)
  | fuel + 1, i, a1, a2, a3, hi, hI, hf => by
    rw [Lp3]
    rcases h (Lp3 body fuel) i a1 a2 a3 hi hI with e | ⟨hlt, b1, b2, b3, hI2, e⟩
    · exact e
    · rw [e]
      exact lp_run3 n I res h fuel (i + 1) b1 b2 b3 (by omega) hI2 (by omega)
theorem lp_run4 {A1 A2 A3 A4 ρ : Type} {body : (A1 → A2 → A3 → A4 → Option ρ) → A1 → A2 → A3 → A4 → Option ρ} (n : Nat) (I : Nat → A1 → A2 → A3 → A4 → Prop) (res : Option ρ) (h : ∀ (k : A1 → A2 → A3 → A4 → Option ρ) (i : Nat) (a1 : A1) (a2 : A2) (a3 : A3) (a4 : A4), i ≤ n → I i a1 a2 a3 a4 → body k a1 a2 a3 a4 = res ∨ (i < n ∧ ∃ b1 b2 b3 b4, I (i + 1) b1 b2 b3 b4 ∧ body k a1 a2 a3 a4 = k b1 b2 b3 b4)) : ∀ (fuel i : Nat) (a1 : A1) (a2 : A2) (a3 : A3) (a4 : A4), i ≤ n → I i a1 a2 a3 a4 → n - i < fuel → Lp4 body fuel a1 a2 a3 a4 = res
  | 0, _, _, _, _, _, _, _, hf => absurd hf (Nat.not_lt_zero _)
  | fuel + 1, i, a1, a2, a3, a4, hi, hI, hf => by
    rw [Lp4]
    rcases h (Lp4 body fuel) i a1 a2 a3 a4 hi hI with e | ⟨hlt, b1, b2, b3, b4, hI2, e⟩
    · exact e
    · rw [e]
      exact lp_run4 n I res h fuel (i + 1) b1 b2 b3 b4 (by omega) hI2 (by omega)
theorem lp_run5 {A1 A2 A3 A4 A5 ρ : Type} {body : (A1 → A2 → A3 → A4 → A5 → Option ρ) → A1 → A2 → A3 → A4 → A5 → Option ρ} (n : Nat) (I : Nat → A1 → A2 → A3 → A4 → A5 → Prop) (res : Option ρ) (h : ∀ (k : A1 → A2 → A3 → A4 → A5 → Option ρ) (i : Nat) (a1 : A1) (a2 : A2) (a3 : A3) (a4 : A4) (a5 : A5), i ≤ n → I i a1 a2 a3 a4 a5 → body k a1 a2 a3 a4 a5 = res ∨ (i < n ∧ ∃ b1 b2 b3 b4 b5, I (i + 1) b1 b2 b3 b4 b5 ∧ body k a1 a2 a3 a4 a5 = k b1 b2 b3 b4 b5)) : ∀ (fuel i : Nat) (a1 : A1) (a2 : A2) (a3 : A3) (a4 : A4) (a5 : A5), i ≤ n → I i a1 a2 a3 a4 a5 → n - i < fuel → Lp5 body fuel a1 a2 a3 a4 a5 = res
  | 0, _, _, _, _, _, _, _, _, hf => absurd hf (Nat.not_lt_zero _)
  | fuel + 1, i, a1, a2, a3, a4, a5, hi, hI, hf => by
    rw [Lp5]
    rcases h (Lp5 body fuel) i a1 a2 a3 a4 a5 hi hI with e | ⟨hlt, b1, b2, b3, b4, b5, hI2, e⟩
    · exact e
    · rw [e]
      exact lp_run5 n I res h fuel (i + 1) b1 b2 b3 b4 b5 (by omega) hI2 (by omega)
theorem lp_run6 {A1 A2 A3 A4 A5 A6 ρ : Type} {body : (A1 → A2 → A3 → A4 → A5 → A6 → Option ρ) → A1 → A2 → A3 → A4 → A5 → A6 → Option ρ} (n : Nat) (I : Nat → A1 → A2 → A3 → A4 → A5 → A6 → Prop) (res : Option ρ) (h : ∀ (k : A1 → A2 → A3 → A4 → A5 → A6 → Option ρ) (i : Nat) (a1 : A1) (a2 : A2) (a3 : A3) (a4 : A4) (a5 : A5) (a6 : A6), i ≤ n → I i a1 a2 a3 a4 a5 a6 → body k a1 a2 a3 a4 a5 a6 = res ∨ (i < n ∧ ∃ b1 b2 b3 b4 b5 b6, I (i + 1) b1 b2 b3 b4 b5 b6 ∧ body k a1 a2 a3 a4 a5 a6 = k b1 b2 b3 b4 b5 b6)) : ∀ (fuel i : Nat) (a1 : A1) (a2 : A2) (a3 : A3) (a4 : A4) (a5 : A5) (a6 : A6), i ≤ n → I i a1 a2 a3 a4 a5 a6 → n - i < fuel → Lp6 body fuel a1 a2 a3 a4 a5 a6 = res
  | 0, _, _, _, _, _, _, _, _, _, hf => absurd hf (Nat.not_lt_zero _)
  | fuel + 1, i, a1, a2, a3, a4, a5, a6, hi, hI, hf => by
    rw [Lp6]
    rcases h (Lp6 body fuel) i a1 a2 a3 a4 a5 a6 hi hI with e | ⟨hlt, b1, b2, b3, b4, b5, b6, hI2, e⟩
    · exact e
    · rw [e]
      exact lp_run6 n I res h fuel (i + 1) b1 b2 b3 b4 b5 b6 (by omega) hI2 (by omega)
theorem lp_run7 {A1 A2 A3 A4 A5 A6 A7 ρ : Type} {body : (A1 → A2 → A3 → A4 → A5 → A6 → A7 → Option ρ) → A1 → A2 → A3 → A4 → A5 → A6 → A7 → Option ρ} (n : Nat) (I : Nat → A1 → A2 → A3 → A4 → A5 → A6 → A7 → Prop) (res : Option ρ) (h : ∀ (k : A1 → A2 → A3 → A4 → A5 → A6 → A7 → Option ρ) (i : Nat) (a1 : A1) (a2 : A2) (a3 : A3) (a4 : A4) (a5 : A5) (a6 : A6) (a7 : A7), i ≤ n → I i a1 a2 a3 a4 a5 a6 a7 → body k a1 a2 a3 a4 a5 a6 a7 = res ∨ (i < n ∧ ∃ b1 b2 b3 b4 b5 b6 b7, I (i + 1) b1 b2 b3 b4 b5 b6 b7 ∧ body k a1 a2 a3 a4 a5 a6 a7 = k b1 b2 b3 b4 b5 b6 b7)) : ∀ (fuel i : Nat) (a1 : A1) (a2 : A2) (a3 : A3) (a4 : A4) (a5 : A5) (a6 : A6) (a7 : A7), i ≤ n → I i a1 a2 a3 a4 a5 a6 a7 → n - i < fuel → Lp7 body fuel a1 a2 a3 a4 a5 a6 a7 = res
  | 0, _, _, _, _, _, _, _, _, _, _, hf => absurd hf (Nat.not_lt_zero _)
  | fuel + 1, i, a1, a2, a3, a4, a5, a6, a7, hi, hI, hf => by
    rw [Lp7]
    rcases h (Lp7 body fuel) i a1 a2 a3 a4 a5 a6 a7 hi hI with e | ⟨hlt, b1, b2, b3, b4, b5, b6, b7, hI2, e⟩
    · exact e
    · rw [e]
      exact lp_run7 n I res h fuel (i + 1) b1 b2 b3 b4 b5 b6 b7 (by omega) hI2 (by omega)
theorem lp_run8 {A1 A2 A3 A4 A5 A6 A7 A8 ρ : Type} {body : (A1 → A2 → A3 → A4 → A5 → A6 → A7 → A8 → Option ρ) → A1 → A2 → A3 → A4 → A5 → A6 → A7 → A8 → Option ρ} (n : Nat) (I : Nat → A1 → A2 → A3 → A4 → A5 → A6 → A7 → A8 → Prop) (res : Option ρ) (h : ∀ (k : A1 → A2 → A3 → A4 → A5 → A6 → A7 → A8 → Option ρ) (i : Nat) (a1 : A1) (a2 : A2) (a3 : A3) (a4 : A4) (a5 : A5) (a6 : A6) (a7 : A7) (a8 : A8), i ≤ n → I i a1 a2 a3 a4 a5 a6 a7 a8 → body k a1 a2 a3 a4 a5 a6 a7 a8 = res ∨ (i < n ∧ ∃ b1 b2 b3 b4 b5 b6 b7 b8, I (i + 1) b1 b2 b3 b4 b5 b6 b7 b8 ∧ body k a1 a2 a3 a4 a5 a6 a7 a8 = k b1 b2 b3 b4 b5 b6 b7 b8)) : ∀ (fuel i : Nat) (a1 : A1) (a2 : A2) (a3 : A3) (a4 : A4) (a5 : A5) (a6 : A6) (a7 : A7) (a8 : A8), i ≤ n → I i a1 a2 a3 a4 a5 a6 a7 a8 → n - i < fuel → Lp8 body fuel a1 a2 a3 a4 a5 a6 a7 a8 = res
  | 0, _, _, _, _, _, _, _, _, _, _, _, hf => absurd hf (Nat.not_lt_zero _)
  | fuel + 1, i, a1, a2, a3, a4, a5, a6, a7, a8, hi, hI, hf => by
    rw [Lp8]
    rcases h (Lp8 body fuel) i a1 a2 a3 a4 a5 a6 a7 a8 hi hI with e | ⟨hlt, b1, b2, b3, b4, b5, b6, b7, b8, hI2, e⟩
    · exact e
    · rw [e]
      exact lp_run8 n I res h fuel (i + 1) b1 b2 b3 b4 b5 b6 b7 b8 (by omega) hI2 (by omega)
theorem lp_run9 {A1 A2 A3 A4 A5 A6 A7 A8 A9 ρ : Type} {body : (A1 → A2 → A3 → A4 → A5 → A6 → A7 → A8 → A9 → Option ρ) → A1 → A2 → A3 → A4 → A5 → A6 → A7 → A8 → A9 → Option ρ} (n : Nat) (I : Nat → A1 → A2 → A3 → A4 → A5 → A6 → A7 → A8 → A9 → Prop) (res : Option ρ) (h : ∀ (k : A1 → A2 → A3 → A4 → A5 → A6 → A7 → A8 → A9 → Option ρ) (i : Nat) (a1 : A1) (a2 : A2) (a3 : A3) (a4 : A4) (a5 : A5) (a6 : A6) (a7 : A7) (a8 : A8) (a9 : A9), i ≤ n → I i a1 a2 a3 a4 a5 a6 a7 a8 a9 → body k a1 a2 a3 a4 a5 a6 a7 a8 a9 = res ∨ (i < n ∧ ∃ b1 b2 b3 b4 b5 b6 b7 b8 b9, I (i + 1) b1 b2 b3 b4 b5 b6 b7 b8 b9 ∧ body k a1 a2 a3 a4 a5 a6 a7 a8 a9 = k b1 b2 b3 b4 b5 b6 b7 b8 b9)) : ∀ (fuel i : Nat) (a1 : A1) (a2 : A2) (a3 : A3) (a4 : A4) (a5 : A5) (a6 : A6) (a7 : A7) (a8 : A8) (a9 : A9), i ≤ n → I i a1 a2 a3 a4 a5 a6 a7 a8 a9 → n - i < fuel → Lp9 body fuel a1 a2 a3 a4 a5 a6 a7 a8 a9 = res
  | 0, _, _, _, _, _, _, _, _, _, _, _, _, hf => absurd hf (Nat.not_lt_zero _)
  | fuel + 1, i, a1, a2, a3, a4, a5, a6, a7, a8, a9, hi, hI, hf => by
    rw [Lp9]
    rcases h (Lp9 body fuel) i a1 a2 a3 a4 a5 a6 a7 a8 a9 hi hI with e | ⟨hlt, b1, b2, b3, b4, b5, b6, b7, b8, b9, hI2, e⟩
    · exact e
    · rw [e]
      exact lp_run9 n I res h fuel (i + 1) b1 b2 b3 b4 b5 b6 b7 b8 b9 (by omega) hI2 (by omega)
