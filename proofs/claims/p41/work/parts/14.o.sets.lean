/-! sets of numbers below n -/
def setM (P : Nat → Bool) : Nat → Nat
  | 0 => 0
  | m + 1 => if P m = true then setM P m + 2 ^ m else setM P m
theorem setM_s {P : Nat → Bool} {m : Nat} : setM P (m + 1) = if P m = true then setM P m + 2 ^ m else setM P m := rfl
theorem setM_lt {P : Nat → Bool} : ∀ m, setM P m < 2 ^ m := by
  intro m
  induction m with
  | zero => exact Nat.one_pos
  | succ m ih =>
    rw [setM_s]
    have := Nat.pow_succ 2 m
    split <;> omega
theorem setM_bit {P : Nat → Bool} : ∀ m j, (setM P m).testBit j = (decide (j < m) && P j) := by
  intro m
  induction m with
  | zero => intro j; simp [setM]
  | succ m ih =>
    intro j
    have hl := setM_lt (P := P) m
    rw [setM_s]
    rcases Nat.lt_trichotomy j m with g | g | g
    · have : decide (j < m + 1) = true := decide_eq_true (by omega)
      have h2 : decide (j < m) = true := decide_eq_true g
      have ihj := ih j
      rw [h2, Bool.true_and] at ihj
      rw [this, Bool.true_and]
      split
      · rw [Nat.add_comm, Nat.testBit_two_pow_add_gt g]; exact ihj
      · exact ihj
    · subst g
      have : decide (j < j + 1) = true := decide_eq_true (by omega)
      have h0 : (setM P j).testBit j = false := Nat.testBit_lt_two_pow hl
      rw [this, Bool.true_and]
      split
      · next c => rw [Nat.add_comm, Nat.testBit_two_pow_add_eq, h0, c]; rfl
      · next c => rw [h0]; exact (Bool.eq_false_iff.mpr c).symm
    · have : decide (j < m + 1) = false := decide_eq_false (by omega)
      rw [this, Bool.false_and]
      have hp : 2 ^ (m + 1) ≤ 2 ^ j := Nat.pow_le_pow_right (by omega) (by omega)
      have := Nat.pow_succ 2 m
      split
      · exact Nat.testBit_lt_two_pow (by omega)
      · exact Nat.testBit_lt_two_pow (by omega)
theorem setM_congr {P Q : Nat → Bool} : ∀ m, (∀ q, q < m → P q = Q q) → setM P m = setM Q m := by
  intro m
  induction m with
  | zero => intro _; rfl
  | succ m ih => intro h; rw [setM_s, setM_s, ih (fun q hq => h q (by omega)), h m (by omega)]
theorem endM_set {V : Nat → Nat} : ∀ m, endM V m = setM (fun q => decide (V (16 + 7 * q) ≠ 0)) m := by
  intro m
  induction m with
  | zero => rfl
  | succ m ih =>
    rw [endM_s, setM_s, ih]
    by_cases c : V (16 + 7 * m) ≠ 0
    · rw [if_pos c, if_pos (decide_eq_true c)]
    · rw [if_neg c, if_neg (by simpa using c)]
/-- a set's bits as a number of the machine -/
theorem nI_bits {P : Nat → Bool} {m k : Nat} (hm : m ≤ 10) (hk : k < 32) : (nI (setM P m)).toBitVec.getLsbD k = (decide (k < m) && P k) := by
  have : (nI (setM P m)).toBitVec = BitVec.ofNat 32 (setM P m) := rfl
  rw [this, BitVec.getLsbD_ofNat, setM_bit]
  have h2 : decide (k < 32) = true := decide_eq_true hk
  rw [h2, Bool.true_and]
theorem set_and_not {P Q : Nat → Bool} {m : Nat} (hm : m ≤ 10) : nI (setM P m) &&& (nI (setM Q m) ^^^ (-1)) = nI (setM (fun q => P q && !Q q) m) := by
  apply Int32.toBitVec_inj.mp
  apply BitVec.eq_of_getLsbD_eq
  intro k hk
  rw [Int32.toBitVec_and, Int32.toBitVec_xor, BitVec.getLsbD_and, BitVec.getLsbD_xor, nI_bits hm hk, nI_bits hm hk, nI_bits hm hk]
  have h1 : ((-1 : Int32).toBitVec).getLsbD k = true := by
    have : (-1 : Int32).toBitVec = BitVec.allOnes 32 := by decide
    rw [this, BitVec.getLsbD_allOnes]; exact decide_eq_true hk
  rw [h1]
  cases decide (k < m) <;> cases P k <;> cases Q k <;> rfl
theorem set_or {P Q : Nat → Bool} {m : Nat} (hm : m ≤ 10) : nI (setM P m) ||| nI (setM Q m) = nI (setM (fun q => P q || Q q) m) := by
  apply Int32.toBitVec_inj.mp
  apply BitVec.eq_of_getLsbD_eq
  intro k hk
  rw [Int32.toBitVec_or, BitVec.getLsbD_or, nI_bits hm hk, nI_bits hm hk, nI_bits hm hk]
  cases decide (k < m) <;> cases P k <;> cases Q k <;> rfl
theorem set_and {P Q : Nat → Bool} {m : Nat} (hm : m ≤ 10) : nI (setM P m) &&& nI (setM Q m) = nI (setM (fun q => P q && Q q) m) := by
  apply Int32.toBitVec_inj.mp
  apply BitVec.eq_of_getLsbD_eq
  intro k hk
  rw [Int32.toBitVec_and, BitVec.getLsbD_and, nI_bits hm hk, nI_bits hm hk, nI_bits hm hk]
  cases decide (k < m) <;> cases P k <;> cases Q k <;> rfl
theorem set_at {P : Nat → Bool} {m j : Nat} (hm : m ≤ 10) (hj : j ≤ 10) : (nI (setM P m) >>> (nI j &&& 31)) &&& 1 = nI (if j < m ∧ P j = true then 1 else 0) := by
  have hl := setM_lt (P := P) m
  have hp : 2 ^ m ≤ 2 ^ 10 := Nat.pow_le_pow_right (by omega) hm
  rw [bit_at (by omega) hj]
  have hb := setM_bit (P := P) m j
  rw [Nat.testBit_eq_decide_div_mod_eq] at hb
  congr 1
  by_cases c : j < m ∧ P j = true
  · rw [if_pos c]
    rw [decide_eq_true c.1, c.2] at hb
    exact of_decide_eq_true hb
  · rw [if_neg c]
    have : (decide (j < m) && P j) = false := by
      rcases Nat.lt_or_ge j m with g | g
      · have : P j = false := Bool.eq_false_iff.mpr (fun e => c ⟨g, e⟩)
        rw [this, Bool.and_false]
      · rw [decide_eq_false (by omega), Bool.false_and]
    rw [this] at hb
    have := of_decide_eq_false hb
    omega
theorem set_0 {P : Nat → Bool} {m : Nat} (hm : m ≤ 10) : nI (setM P m) = 0 ↔ ∀ q, q < m → P q = false := by
  have hl := setM_lt (P := P) m
  have hp : 2 ^ m ≤ 2 ^ 10 := Nat.pow_le_pow_right (by omega) hm
  constructor
  · intro h q hq
    have h0 : setM P m = 0 := (nI_eq (b := 0) (by omega) (by omega)).mp h
    have hb := setM_bit (P := P) m q
    rw [h0, Nat.zero_testBit, decide_eq_true hq, Bool.true_and] at hb
    exact hb.symm
  · intro h
    have : ∀ k, k ≤ m → setM P k = 0 := by
      intro k
      induction k with
      | zero => intro _; rfl
      | succ k ih => intro hk; rw [setM_s, h k (by omega), ih (by omega)]; rfl
    rw [this m (Nat.le_refl m)]; rfl
/-- the greatest of a set, or what was -/
def topF (P : Nat → Bool) (d : Int32) : Nat → Int32
  | 0 => d
  | m + 1 => if P m = true then nI m else topF P d m
theorem topF_none {P : Nat → Bool} {d : Int32} : ∀ m, (∀ q, q < m → P q = false) → topF P d m = d := by
  intro m
  induction m with
  | zero => intro _; rfl
  | succ m ih =>
    intro h
    show (if P m = true then nI m else topF P d m) = d
    rw [h m (by omega), if_neg (by decide), ih (fun q hq => h q (by omega))]
theorem topF_some {P : Nat → Bool} {d d2 : Int32} : ∀ m, (∃ q, q < m ∧ P q = true) → topF P d m = topF P d2 m := by
  intro m
  induction m with
  | zero => rintro ⟨q, hq, -⟩; omega
  | succ m ih =>
    rintro ⟨q, hq, hp⟩
    show (if P m = true then nI m else topF P d m) = (if P m = true then nI m else topF P d2 m)
    by_cases c : P m = true
    · rw [if_pos c, if_pos c]
    · rw [if_neg c, if_neg c]
      exact ih ⟨q, by rcases Nat.lt_or_ge q m with g | g; exact g; exact absurd (by rw [show m = q by omega]; exact hp) c, hp⟩
theorem topF_ext {P Q : Nat → Bool} {d : Int32} : ∀ m k, m ≤ k → (∀ q, q < m → P q = Q q) → (∀ q, m ≤ q → q < k → P q = false) → topF P d k = topF Q d m := by
  intro m k
  induction k with
  | zero => intro h _ _; have : m = 0 := by omega
            subst this; rfl
  | succ k ih =>
    intro h h1 h2
    rcases Nat.lt_or_ge k m with g | g
    · have : m = k + 1 := by omega
      subst this
      clear ih h2
      have : ∀ x, x ≤ k + 1 → topF P d x = topF Q d x := by
        intro x
        induction x with
        | zero => intro _; rfl
        | succ x ihx =>
          intro hx
          show (if P x = true then nI x else topF P d x) = (if Q x = true then nI x else topF Q d x)
          rw [h1 x (by omega), ihx (by omega)]
      exact this (k + 1) (Nat.le_refl _)
    · show (if P k = true then nI k else topF P d k) = topF Q d m
      rw [h2 k g (by omega), if_neg (by decide)]
      exact ih g h1 (fun q q1 q2 => h2 q q1 (by omega))
