/-! sets in numbers -/
def endM (V : Nat → Nat) : Nat → Nat
  | 0 => 0
  | m + 1 => if V (16 + 7 * m) ≠ 0 then endM V m + 2 ^ m else endM V m
theorem endM_s {V : Nat → Nat} {m : Nat} : endM V (m + 1) = if V (16 + 7 * m) ≠ 0 then endM V m + 2 ^ m else endM V m := rfl
theorem endM_lt {V : Nat → Nat} : ∀ m, endM V m < 2 ^ m := by
  intro m
  induction m with
  | zero => exact Nat.one_pos
  | succ m ih =>
    rw [endM_s]
    have := Nat.pow_succ 2 m
    split <;> omega
theorem endM_congr {V W : Nat → Nat} : ∀ m : Nat, (∀ q, q < m → V (16 + 7 * q) = W (16 + 7 * q)) → endM V m = endM W m := by
  intro m
  induction m with
  | zero => intro _; rfl
  | succ m ih => intro h; rw [endM_s, endM_s, ih (fun q hq => h q (by omega)), h m (by omega)]
theorem or_bit {a i : Nat} (ha : a < 2 ^ i) (hi : i ≤ 10) : nI a ||| nI (2 ^ i) = nI (a + 2 ^ i) := by
  have h2 : 2 ^ i ≤ 2 ^ 10 := Nat.pow_le_pow_right (by omega) hi
  apply Int32.toBitVec_inj.mp
  rw [Int32.toBitVec_or]
  apply BitVec.eq_of_toNat_eq
  rw [BitVec.toNat_or, pk_tn (by omega), pk_tn (by omega), pk_tn (by omega), Nat.or_comm]
  have := Nat.two_pow_add_eq_or_of_lt ha 1
  rw [Nat.mul_one] at this
  rw [← this]; omega
theorem or_0 (x : Int32) : x ||| 0 = x := by simp
theorem shl_n10 {n : Nat} (hn : n ≤ 10) : (1 : Int32) <<< (nI n &&& 31) = nI (2 ^ n) := by
  rcases (by omega : n ≤ 9 ∨ n = 10) with h | rfl
  · exact shl_n h
  · decide
theorem bit_at {s i : Nat} (hs : s < 2 ^ 31) (hi : i ≤ 10) : (nI s >>> (nI i &&& 31)) &&& 1 = nI (s / 2 ^ i % 2) := by
  have hk : ((nI i &&& 31).toBitVec.smod 32).toNat = i := by
    rcases (by omega : i = 0 ∨ i = 1 ∨ i = 2 ∨ i = 3 ∨ i = 4 ∨ i = 5 ∨ i = 6 ∨ i = 7 ∨ i = 8 ∨ i = 9 ∨ i = 10) with rfl | rfl | rfl | rfl | rfl | rfl | rfl | rfl | rfl | rfl | rfl <;> decide
  rw [pk_shrN hs _ i hk, pk_andN (Nat.lt_of_le_of_lt (Nat.div_le_self _ _) (by omega)) (m := 1) 1 rfl]
def pcN (s : Nat) : Nat := s % 2 + s / 2 % 2 + s / 4 % 2 + s / 8 % 2 + s / 16 % 2 + s / 32 % 2 + s / 64 % 2 + s / 128 % 2 + s / 256 % 2 + s / 512 % 2
theorem pcN_le (s : Nat) : pcN s ≤ 10 := by unfold pcN; omega
def bcI (x : Int32) : Int32 :=
  let g1 := (x - (((x.toUInt32 >>> ((1 : Int32).toUInt32 &&& Int32.toUInt32 31)).toInt32) &&& 1431655765))
  let g2 := ((g1 &&& 858993459) + (((g1.toUInt32 >>> ((2 : Int32).toUInt32 &&& Int32.toUInt32 31)).toInt32) &&& 858993459))
  let g3 := ((g2 + ((g2.toUInt32 >>> ((4 : Int32).toUInt32 &&& Int32.toUInt32 31)).toInt32)) &&& 252645135)
  let g4 := (g3 + ((g3.toUInt32 >>> ((8 : Int32).toUInt32 &&& Int32.toUInt32 31)).toInt32))
  let g5 := (g4 + ((g4.toUInt32 >>> ((16 : Int32).toUInt32 &&& Int32.toUInt32 31)).toInt32))
  g5 &&& 63
theorem bcI_eq : ∀ s : Nat, s < 1024 → bcI (nI s) = nI (pcN s) := by decide +kernel
theorem x_bitCount {s : Nat} (hs : s < 1024) {M : Mem} {K : Int32 → Mem → Prop} (hk : K (nI (pcN s)) M) : wp_J6_bitCount_0f7a4 (nI s) M K := by
  rw [← bcI_eq s hs] at hk
  unfold wp_J6_bitCount_0f7a4
  rintro _ rfl _ rfl _ rfl _ rfl _ rfl
  exact hk
def clr (s : Nat) : Nat := (nI s &&& (nI s - 1)).toNatClampNeg
theorem clr_eq : ∀ s : Nat, s < 1024 → s ≠ 0 → nI s &&& (nI s - 1) = nI (clr s) ∧ clr s < s ∧ pcN s = pcN (clr s) + 1 := by decide +kernel
theorem g_bits {s : Nat} (hs : s < 1024) {M : Mem} {K : Int32 → Mem → Prop} (hk : K (nI (pcN s)) M) : wp_X8_bits (nI s) M K := by
  unfold wp_X8_bits
  refine loopW (σ := Int32 × Int32 × Mem) (L := fun n s => wp_X8_bits_L4 K n s.1 s.2.1 s.2.2) (I := fun k z => k < 1024 ∧ z.2.1 = nI k ∧ z.2.2 = M ∧ ∃ c : Nat, z.1 = nI c ∧ c + pcN k = pcN s) ?_ (k := s) (s := (0, nI s, M)) ⟨hs, rfl, rfl, 0, rfl, by omega⟩
  intro k z n hI ih
  obtain ⟨h1, h2, h3, c, h4, h5⟩ := hI
  show wp_X8_bits_l4 K (wp_X8_bits_L4 K n) z.1 z.2.1 z.2.2
  unfold wp_X8_bits_l4
  rw [h2, h3, h4]
  refine ⟨fun e => ?_, fun e => ?_⟩
  · have : k = 0 := (nI_eq (a := k) (b := 0) (by omega) (by omega)).mp e
    subst this
    have h0 : pcN 0 = 0 := rfl
    rw [show c = pcN s by omega]; exact hk
  · have hne : k ≠ 0 := fun g => e (by rw [g]; rfl)
    obtain ⟨c1, c2, c3⟩ := clr_eq k h1 hne
    rw [c1, nI_1]
    exact ih (clr k) (nI (c + 1), nI (clr k), M) c2 ⟨by omega, rfl, rfl, c + 1, rfl, by omega⟩
theorem k_setEnded {g n : Nat} {h : Nat → Int32} {V : Nat → Nat} {M : Mem} {K : Int32 → Mem → Prop} (hF : GF g) (hR : RG g n h V M) (hV : RV n V) (hk : K (nI (endM V n)) M) : wp_X0_setEnded g M K := by
  have hn := hV.1
  unfold wp_X0_setEnded
  refine loopNA (L := fun k a i M' => wp_X0_setEnded_L4 K g k a i M') n (fun i a M' => M' = M ∧ a = nI (endM V i)) ?_ 0 (Nat.zero_le _) ⟨rfl, rfl⟩
  intro i a M' k hi e ih
  obtain ⟨rfl, rfl⟩ := e
  show wp_X0_setEnded_l4 K g (wp_X0_setEnded_L4 K g k) (nI (endM V i)) (nI i) M'
  unfold wp_X0_setEnded_l4
  rw [hR.1]
  refine ⟨fun q => ?_, fun q => ?_⟩
  · have : i = n := by have := le_of_nI q (by omega) (by omega); omega
    subst this; exact hk
  · have hi2 : i < n := lt_of_nI q (by omega) (by omega)
    have w5 := (hV.2.2.2.2.2.2 i hi2).2.2.2.2.1
    have hl := endM_lt (V := V) i
    rw [nI_1, hF.one (by omega), (hR.2.2.2.2.2 i hi2).2.2.2.2.2.1, shl_n10 (by omega), or_bit hl (by omega), or_0]
    refine ⟨hF.vp (by omega), fun e => ih _ _ hi2 ⟨rfl, ?_⟩, fun e => ih _ _ hi2 ⟨rfl, ?_⟩⟩
    · have : V (16 + 7 * i) = 0 := (nI_eq (a := V (16 + 7 * i)) (b := 0) (by omega) (by omega)).mp e
      rw [endM_s, if_neg (fun c => c this)]
    · rw [endM_s, if_pos (fun c => e (by rw [c]; rfl))]
theorem k_endedMany {g n : Nat} {h : Nat → Int32} {V : Nat → Nat} {M : Mem} {K : Int32 → Mem → Prop} (hF : GF g) (hR : RG g n h V M) (hV : RV n V) (hk : K (nI (pcN (endM V n))) M) : wp_X0_endedMany g M K := by
  unfold wp_X0_endedMany
  have hn := hV.1
  have := endM_lt (V := V) n
  have := pow_9 hn
  exact k_setEnded hF hR hV (x_bitCount (by omega) hk)
theorem g_overSet {n : Nat} {h : Nat → Int32} {V : Nat → Nat} {M : Mem} {K : Int32 → Mem → Prop} (hR : RR n h V (M 80)) (hV : RV n V) (hk : K (nI (endM V n)) M) : wp_X8_overSet M K := by
  have hn := hV.1
  unfold wp_X8_overSet
  refine loopNA (L := fun k a i M' => wp_X8_overSet_L4 K k a i M') n (fun i a M' => M' = M ∧ a = nI (endM V i)) ?_ 0 (Nat.zero_le _) ⟨rfl, rfl⟩
  intro i a M' k hi e ih
  obtain ⟨rfl, rfl⟩ := e
  show wp_X8_overSet_l4 K (wp_X8_overSet_L4 K k) (nI (endM V i)) (nI i) M'
  unfold wp_X8_overSet_l4
  rw [hR.1]
  refine ⟨fun q => ?_, fun q => ?_⟩
  · have : i = n := by have := le_of_nI q (by omega) (by omega); omega
    subst this; exact hk
  · have hi2 : i < n := lt_of_nI q (by omega) (by omega)
    have w5 := (hV.2.2.2.2.2.2 i hi2).2.2.2.2.1
    have hl := endM_lt (V := V) i
    rw [nI_1]
    refine i_it 5 (16 + 7 * i) hn hR hi2 (by omega) (ih _ _ hi2 ⟨rfl, ?_⟩)
    rw [endM_s]
    rcases (by omega : V (16 + 7 * i) = 0 ∨ V (16 + 7 * i) = 1) with e | e
    · rw [e, if_neg (by omega)]
      have : nI 0 <<< (nI i &&& 31) = 0 := by
        rcases (by omega : i = 0 ∨ i = 1 ∨ i = 2 ∨ i = 3 ∨ i = 4 ∨ i = 5 ∨ i = 6 ∨ i = 7 ∨ i = 8) with rfl | rfl | rfl | rfl | rfl | rfl | rfl | rfl | rfl <;> decide
      rw [this, or_0]
    · rw [e, if_pos (by omega)]
      rw [show nI 1 <<< (nI i &&& 31) = nI (2 ^ i) from shl_n10 (by omega), or_bit hl (by omega)]
