/-! a day in numbers: what one gains, needs, and how it dulls -/
def gainN (kd m v age day : Nat) : Nat := if kd = 1 then v + m else if kd = 2 then 2 * v else if kd = 3 then v / 2 else if kd = 4 then (v + m) - age / 10 else if kd = 5 then (if day % 6 = 0 then 0 else 2 * v) else if kd = 6 then 0 else v
def needN (kd m : Nat) : Nat := if kd = 1 then 50 + 2 * m else if kd = 2 then 30 else if kd = 3 then 80 else if kd = 4 then 55 + 2 * m else if kd = 5 then 30 + m else if kd = 6 then 80 - m else 50
def dullN (kd : Nat) : Nat := if kd = 1 then 4 else if kd = 2 then 6 else if kd = 3 then 1 else if kd = 4 then 4 else if kd = 5 then 6 else if kd = 6 then 1 else 3
theorem max0 {a b : Nat} (ha : a < 2 ^ 30) (hb : b < 2 ^ 30) : (if (0 : Int32) < nI a - nI b then nI a - nI b else 0) = nI (a - b) := by
  rcases Nat.lt_or_ge b a with c | c
  · rw [pk_sub (by omega), if_pos (show (0 : Int32) < nI (a - b) from nI_lt (a := 0) (by omega) (by omega))]
  · rw [if_neg (fun q => ?_), show a - b = 0 by omega]
    · rfl
    · have := Int32.lt_iff_toInt_lt.mp q
      rw [pk_sub_toInt ha hb] at this
      have h0 : (0 : Int32).toInt = 0 := rfl
      omega
theorem minN {a b : Nat} (ha : a < 2 ^ 31) (hb : b < 2 ^ 31) : (if nI a < nI b then nI a else nI b) = nI (min b a) := by
  rcases Nat.lt_or_ge a b with c | c
  · rw [if_pos (nI_lt c hb), show min b a = a by omega]
  · rw [if_neg (nI_nlt c ha), show min b a = b by omega]
theorem x_gains {x kd m v age day : Nat} {M : Mem} {K : Int32 → Mem → Prop} (h0 : M x 0 = nI kd) (hk : kd ≤ 6) (h1 : M x 1 = nI m) (hm : m ≤ 9) (h5 : M x 5 = nI age) (ha : age ≤ 999) (hv : v ≤ 99) (hd : day < 2 ^ 20) (h : K (nI (gainN kd m v age day)) M) : wp_X1_gains x (nI v) (nI day) M K := by
  unfold wp_X1_gains
  rw [h0, h1, h5]
  rcases (by omega : kd = 0 ∨ kd = 1 ∨ kd = 2 ∨ kd = 3 ∨ kd = 4 ∨ kd = 5 ∨ kd = 6) with rfl | rfl | rfl | rfl | rfl | rfl | rfl
  all_goals repeat (first | refine ⟨fun q => absurd q (by decide), fun _ => ?_⟩ | refine ⟨fun _ => ?_, fun q => absurd rfl q⟩)
  · exact h
  · rw [nI_add]; exact h
  · rw [show (2 : Int32) = nI 2 from rfl, pk_mul]; exact h
  · rw [show (2 : Int32) = nI 2 from rfl, pk_div (by omega) (by omega) (by omega)]; exact h
  · rw [nI_add, show (10 : Int32) = nI 10 from rfl, pk_div (by omega) (by omega) (by omega), max0 (by omega) (by omega)]; exact h
  · rw [show (6 : Int32) = nI 6 from rfl, pk_rem (by omega) (by omega) (by omega)]
    have h : K (nI (if day % 6 = 0 then 0 else 2 * v)) M := h
    refine ⟨fun q => ?_, fun q => ?_⟩
    · rw [if_neg (fun e => q (by rw [e]; rfl))] at h
      rw [show (2 : Int32) = nI 2 from rfl, pk_mul]; exact h
    · rw [if_pos ((nI_eq (a := day % 6) (b := 0) (by omega) (by omega)).mp q)] at h
      exact h
  · exact h
theorem x_needs {x kd m : Nat} {M : Mem} {K : Int32 → Mem → Prop} (h0 : M x 0 = nI kd) (hk : kd ≤ 6) (h1 : M x 1 = nI m) (hm : m ≤ 9) (h : K (nI (needN kd m)) M) : wp_X1_needs x M K := by
  unfold wp_X1_needs
  rw [h0, h1]
  rcases (by omega : kd = 0 ∨ kd = 1 ∨ kd = 2 ∨ kd = 3 ∨ kd = 4 ∨ kd = 5 ∨ kd = 6) with rfl | rfl | rfl | rfl | rfl | rfl | rfl
  all_goals repeat (first | refine ⟨fun q => absurd q (by decide), fun _ => ?_⟩ | refine ⟨fun _ => ?_, fun q => absurd rfl q⟩)
  · exact h
  · rw [show (2 : Int32) = nI 2 from rfl, show (50 : Int32) = nI 50 from rfl, pk_mul, nI_add]; exact h
  · exact h
  · exact h
  · rw [show (2 : Int32) = nI 2 from rfl, show (50 : Int32) = nI 50 from rfl, show (5 : Int32) = nI 5 from rfl, pk_mul, nI_add, nI_add, show 50 + 2 * m + 5 = 55 + 2 * m by omega]; exact h
  · rw [show (30 : Int32) = nI 30 from rfl, nI_add]; exact h
  · rw [show (80 : Int32) = nI 80 from rfl, pk_sub (by omega)]; exact h
theorem x_dulls {x kd : Nat} {M : Mem} {K : Int32 → Mem → Prop} (h0 : M x 0 = nI kd) (hk : kd ≤ 6) (h : K (nI (dullN kd)) M) : wp_X1_dulls x M K := by
  unfold wp_X1_dulls
  rw [h0]
  rcases (by omega : kd = 0 ∨ kd = 1 ∨ kd = 2 ∨ kd = 3 ∨ kd = 4 ∨ kd = 5 ∨ kd = 6) with rfl | rfl | rfl | rfl | rfl | rfl | rfl
  all_goals repeat (first | refine ⟨fun q => absurd q (by decide), fun _ => ?_⟩ | refine ⟨fun _ => ?_, fun q => absurd rfl q⟩)
  all_goals exact h
/-- a law's value is a number of at most 99 -/
theorem cl99_nat (v : Int32) : ∃ w : Nat, w ≤ 99 ∧ cl99 v = nI w := by
  have h0 : (0 : Int32).toInt = 0 := rfl
  have h9 : (99 : Int32).toInt = 99 := rfl
  have lt : ∀ a b : Int32, a < b ↔ a.toInt < b.toInt := fun a b => Int32.lt_iff_toInt_lt
  unfold cl99
  by_cases g : v < 99
  · simp only [if_pos g]
    by_cases g0 : 0 < v
    · rw [if_pos g0]
      rw [lt, h9] at g
      rw [lt, h0] at g0
      exact nat_of 99 (by omega) (by omega) (by decide)
    · rw [if_neg g0]; exact ⟨0, by omega, rfl⟩
  · simp only [if_neg g]; exact ⟨99, by omega, rfl⟩
def tvN (t : Nat) (M : Mem) (a b c : Nat) : Nat := (tv t M (nI a) (nI b) (nI c)).toNatClampNeg
theorem tvN_eq {t : Nat} {M : Mem} {a b c : Nat} : tv t M (nI a) (nI b) (nI c) = nI (tvN t M a b c) ∧ tvN t M a b c ≤ 99 := by
  obtain ⟨w, hw, e⟩ := cl99_nat (if M t 5 ≤ 0 then (if M t 4 = 0 then 20 else 9 - nI a / 11) else vl (M (t + 1)) (M (t + 2)) (M (t + 3)) (nI a) (nI b) (nI c) ((M t 5).toNatClampNeg - 1))
  have e2 : tv t M (nI a) (nI b) (nI c) = nI w := e
  unfold tvN
  rw [e2, nI_clamp (by omega)]
  exact ⟨rfl, hw⟩
