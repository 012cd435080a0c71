section AQ
variable {n b t i : Nat} {h : Nat → Int32} {V : Nat → Nat} {M X : Mem} {K : Int32 → Mem → Prop}
/-! judge: up to the first number that is no age -/
def jdP (f : Nat → Int32) (V : Nat → Nat) (k : Nat) : Bool := decide (f k ≠ nI (V (17 + 7 * k)))
def jdV (n z : Nat) (f : Nat → Int32) (V : Nat → Nat) : Int32 := if fnd (jdP f V) 0 (min n z) < min n z then nI (fnd (jdP f V) 0 (min n z)) else if z = n then -1 else nI (min n z)
theorem jd_c {f : Nat → Int32} {k : Nat} : jdP f V k = true ↔ ¬ f k = nI (V (17 + 7 * k)) := by unfold jdP; exact decide_eq_true_iff
theorem x_judge {a : Int32} (hS : SA 1 80 n b t V h M) (hH : SHc M) (hg : ∀ j z : Nat, j < 4 → a = nI j → M (70 + 2 * j) 2 = nI z → z ≤ 40 → ¬ M (70 + 2 * j) 1 = 0 → ∀ M1, PC 0 M M1 → K (jdV n z (M (71 + 2 * j)) V) M1)
    (hb : ¬ (0 ≤ a.toInt ∧ a.toInt ≤ 3) → ∀ M1, PC 1 M M1 → K (erA 1).1 M1) (hm : ∀ j : Nat, j < 4 → a = nI j → M (70 + 2 * j) 1 = 0 → ∀ M1, PC 2 M M1 → K (erA 2).1 M1) : wp_X7_judge a M K := by
  have hn := hS.rv.1
  have hG : RG 12 n h V M := hS.1
  unfold wp_X7_judge
  refine s7 (fun j hj ej => b1b ?_) (fun g => b0b (e7A (i := 1) (by omega) (by omega) (by decide) St.rf (hb g)))
  subst ej
  rw [nI_clamp (by omega)]
  refine ⟨vp_in_nI hj (by decide), ?_⟩
  unfold wp_X3_isMissing
  refine ⟨fun q => b0a ?_, fun q => b1a (e7A (i := 2) (by omega) (by omega) (by decide) St.rf (hm j hj rfl q))⟩
  obtain ⟨z, hz, ez⟩ := hH j hj
  have hk := hg j z hj rfl ez hz q M (PC.of St.rf)
  unfold jdV at hk
  rw [ez, hG.1, min_nI (by omega) (by omega)]
  rintro _ rfl
  generalize hP : jdP (M (71 + 2 * j)) V = P at hk
  refine loopN (L := fun k i M' => wp_X7_judge_L56 K (70 + 2 * j) (nI (min n z)) k i M') (min n z) (fun i M' => M' = M ∧ fnd P 0 (min n z) = fnd P i (min n z - i)) ?_ 0 (Nat.zero_le _) ⟨rfl, rfl⟩
  intro i M' k hi e ih
  obtain ⟨rfl, he⟩ := e
  show wp_X7_judge_l56 K (70 + 2 * j) (nI (min n z)) (wp_X7_judge_L56 K (70 + 2 * j) (nI (min n z)) k) (nI i) M'
  unfold wp_X7_judge_l56
  rw [rf_sh hj, ln_sh hj, ez, hG.1]
  refine ⟨fun q2 => ?_, fun q2 => ?_⟩
  · have hin : i = min n z := by have := le_of_nI q2 (by omega) (by omega); omega
    rw [← hin, Nat.sub_self] at he
    have he : fnd P 0 i = i := he
    rw [← hin, he, if_neg (by omega)] at hk
    rw [← hin]
    refine ⟨fun e => ?_, fun e => ?_⟩
    · rw [if_neg (fun c => e (by rw [c]))] at hk; exact hk
    · rw [if_pos ((nI_eq (by omega) (by omega)).mp e)] at hk; exact hk
  · have hi2 : i < min n z := lt_of_nI q2 (by omega) (by omega)
    rw [nI_1, nI_clamp (by omega)]
    have p7 : M' (14 + i) 5 = nI (V (17 + 7 * i)) := (hG.2.2.2.2.2 i (by omega)).2.2.2.2.2.2
    rw [show min n z - i = (min n z - (i + 1)) + 1 by omega] at he
    rw [p7]
    refine ⟨vp_in_nI (by omega) (by decide), vp_in_nI (by omega) (by decide), fun e => ?_, fun e => ?_⟩
    · have he := he.trans (fnd_n (by rw [← hP, jd_c]; exact fun c => c e))
      exact ih _ hi2 ⟨rfl, he⟩
    · have he := he.trans (fnd_y (by rw [← hP, jd_c]; exact e))
      rw [he, if_pos hi2] at hk; exact hk
theorem y_judge {a : Int32} (hR : RR n h V (M 80)) (hn : n ≤ 9) (hH : SMc M) (hg : ∀ j z : Nat, j < 4 → a = nI j → M 88 j = nI z → z ≤ 40 → ¬ M 87 j = 0 → ∀ M1, PM 0 M M1 → K (jdV n z (fun k => M 89 (40 * j + k)) V) M1)
    (hb : ¬ (0 ≤ a.toInt ∧ a.toInt ≤ 3) → ∀ M1, PM 1 M M1 → K (erA 1).1 M1) (hm : ∀ j : Nat, j < 4 → a = nI j → M 87 j = 0 → ∀ M1, PM 2 M M1 → K (erA 2).1 M1) : wp_X8_judge a M K := by
  unfold wp_X8_judge
  refine s8 (fun j hj ej => b1b ?_) (fun g => b0b (e8A (i := 1) (by omega) (by omega) (by decide) St.rf (hb g)))
  subst ej
  have hv : vp_in (nI j) 4 := vp_in_nI hj (by decide)
  rw [nI_clamp (by omega)]
  refine ⟨hv, fun q => ?_, fun q => e8A (i := 2) (by omega) (by omega) (by decide) St.rf (hm j hj rfl q)⟩
  obtain ⟨z, hz, ez⟩ := hH j hj
  have hk := hg j z hj rfl ez hz q M (PM.of St.rf)
  unfold jdV at hk
  generalize hP : jdP (fun k => M 89 (40 * j + k)) V = P at hk
  refine loopN (L := fun m i M' => wp_X8_judge_L32 K (nI j) m i M') (min n z) (fun i M' => M' = M ∧ fnd P 0 (min n z) = fnd P i (min n z - i)) ?_ 0 (Nat.zero_le _) ⟨rfl, rfl⟩
  intro i M' m hi e ih
  obtain ⟨rfl, he⟩ := e
  show wp_X8_judge_l32 K (nI j) (wp_X8_judge_L32 K (nI j) m) (nI i) M'
  unfold wp_X8_judge_l32
  rw [nI_clamp (by omega), ez, hR.1]
  -- at the end
  have fin : i = min n z → (¬ nI i = nI n → K (nI i) M') ∧ (nI i = nI n → vp_in (nI j) 4 ∧ ((¬ nI i = nI z → K (nI i) M') ∧ (nI i = nI z → K (-1) M'))) := fun hin => by
    rw [← hin, Nat.sub_self] at he
    have he : fnd P 0 i = i := he
    rw [← hin, he, if_neg (by omega)] at hk
    refine ⟨fun e => ?_, fun e => ⟨hv, fun e2 => ?_, fun e2 => ?_⟩⟩
    · have h1 : i ≠ n := fun c => e (by rw [c])
      rw [if_neg (by omega)] at hk; exact hk
    · have h1 : i = n := (nI_eq (by omega) (by omega)).mp e
      have h2 : i ≠ z := fun c => e2 (by rw [c])
      rw [if_neg (by omega)] at hk; exact hk
    · have h1 : i = n := (nI_eq (by omega) (by omega)).mp e
      have h2 : i = z := (nI_eq (by omega) (by omega)).mp e2
      rw [if_pos (by omega)] at hk; exact hk
  refine ⟨fun q2 => fin (by have := le_of_nI q2 (by omega) (by omega); omega), fun q2 => ⟨hv, fun q3 => fin (by have := le_of_nI q3 (by omega) (by omega); omega), fun q3 => ?_⟩⟩
  have hi2 : i < n := lt_of_nI q2 (by omega) (by omega)
  have hi3 : i < z := lt_of_nI q3 (by omega) (by omega)
  rw [ix40, nI_clamp (by omega), nI_1]
  refine ⟨vp_in_nI (by omega) (by decide), i_it 6 (17 + 7 * i) hn hR hi2 (by omega) ?_⟩
  rw [show min n z - i = (min n z - (i + 1)) + 1 by omega] at he
  refine ⟨fun e => ?_, fun e => ?_⟩
  · have he := he.trans (fnd_y (by rw [← hP, jd_c]; exact e))
    rw [he, if_pos (by omega)] at hk
    refine ⟨fun _ => hk, fun e2 => absurd ((nI_eq (a := i) (b := n) (by omega) (by omega)).mp (e2.trans hR.1)) (by omega)⟩
  · have he := he.trans (fnd_n (by rw [← hP, jd_c]; exact fun c => c e))
    exact ih _ (by omega) ⟨rfl, he⟩
theorem fnd_congr {P Q : Nat → Bool} : ∀ r i, (∀ k, i ≤ k → k < i + r → P k = Q k) → fnd P i r = fnd Q i r := by
  intro r
  induction r with
  | zero => intro i _; rfl
  | succ r ih =>
    intro i hpq
    show (if P i = true then i else fnd P (i + 1) r) = (if Q i = true then i else fnd Q (i + 1) r)
    rw [hpq i (by omega) (by omega), ih (i + 1) (fun k h1 h2 => hpq k (by omega) (by omega))]
theorem z3_judge {a : Int32} (hI : Inv2 i M) : wp_X7_judge a M (fun r1 M1 => wp_X8_judge a M1 (fun r2 M2 => r1 = r2 ∧ Inv2 (i + 1) M2)) := by
  obtain ⟨n, b, t, V, h, hS⟩ := hI.2.1
  have hn := hS.rv.1
  have hH := hI.2.2.1
  have hR := hS.2.2.1
  have inj : ∀ {p q : Nat} {v : Int32}, p < 4 → q < 4 → v = nI p → v = nI q → q = p := fun hp hq e1 e2 => (nI_eq (by omega) (by omega)).mp (e2.symm.trans e1)
  have hm : ∀ {M1 : Mem}, St SX M M1 → SMc M1 := fun h j hj => by rw [h 88 rfl]; exact hH.m j hj
  refine x_judge hS hH.c (fun j z hj ej ez hz hbt M1 p1 => ?_) (fun g M1 p1 => ?_) (fun j hj ej hbt M1 p1 => ?_)
  · obtain ⟨z', hz', f1, f2, f3, f4⟩ := hH j hj
    have hzz : z' = z := (nI_eq (by omega) (by omega)).mp (f1.symm.trans ez)
    subst hzz
    refine y_judge (n := n) (h := h) (V := V) (by rw [p1.1 80 rfl]; exact hR) hn (hm p1.1) (fun j' z2 hj' ej' ez' hz2 hb' M2 p2 => ⟨?_, hI.th p1.1 p2.1⟩) (fun g => absurd (by rw [ej, nI_toInt (by omega)]; omega) g) (fun j' hj' ej' hb' => ?_)
    · have := inj hj hj' ej ej'; subst this
      have hz3 : z2 = z' := (nI_eq (by omega) (by omega)).mp (ez'.symm.trans (by rw [p1.1 88 rfl]; exact f2))
      subst hz3
      rw [p1.1 89 rfl]
      have ef : fnd (jdP (M (71 + 2 * j')) V) 0 (min n z2) = fnd (jdP (fun k => M 89 (40 * j' + k)) V) 0 (min n z2) := fnd_congr (min n z2) 0 (fun k _ hk => by unfold jdP; rw [f4 k (by omega)])
      unfold jdV
      rw [ef]
    · have := inj hj hj' ej ej'; subst this
      rw [p1.1 87 rfl, ← f3] at hb'; exact absurd hb' hbt
  · exact y_judge (n := n) (h := h) (V := V) (by rw [p1.1 80 rfl]; exact hR) hn (hm p1.1) (fun j z hj ej => absurd (by rw [ej, nI_toInt (by omega)]; omega) g) (fun _ M2 p2 => ⟨rfl, hI.th p1.1 p2.1⟩) (fun j hj ej => absurd (by rw [ej, nI_toInt (by omega)]; omega) g)
  · obtain ⟨z', hz', f1, f2, f3, f4⟩ := hH j hj
    refine y_judge (n := n) (h := h) (V := V) (by rw [p1.1 80 rfl]; exact hR) hn (hm p1.1) (fun j' z2 hj' ej' ez' hz2 hb' => ?_) (fun g => absurd (by rw [ej, nI_toInt (by omega)]; omega) g) (fun j' hj' ej' hb' M2 p2 => ⟨rfl, hI.th p1.1 p2.1⟩)
    have := inj hj hj' ej ej'; subst this
    rw [p1.1 87 rfl, ← f3] at hb'; exact absurd hbt hb'
/-! sparks -/
def eqE (f : Nat → Int32) (W : Nat → Nat) : Nat → Bool
  | 0 => true
  | m + 1 => eqE f W m && decide (nI (W (14 + 7 * m)) = f m)
theorem eqE_no {f : Nat → Int32} {W : Nat → Nat} {i : Nat} (hi : ¬ nI (W (14 + 7 * i)) = f i) : ∀ m, i < m → eqE f W m = false := by
  intro m
  induction m with
  | zero => intro h; omega
  | succ m ih =>
    intro hm
    show (eqE f W m && decide (nI (W (14 + 7 * m)) = f m)) = false
    rcases Nat.lt_or_ge i m with g | g
    · rw [ih g, Bool.false_and]
    · have : i = m := by omega
      subst this
      rw [decide_eq_false hi, Bool.and_false]
theorem eqE_congr {f g : Nat → Int32} {W U : Nat → Nat} : ∀ m, (∀ k, k < m → f k = g k) → (∀ k, k < m → W (14 + 7 * k) = U (14 + 7 * k)) → eqE f W m = eqE g U m := by
  intro m
  induction m with
  | zero => intro _ _; rfl
  | succ m ih =>
    intro h1 h2
    show (eqE f W m && decide (nI (W (14 + 7 * m)) = f m)) = (eqE g U m && decide (nI (U (14 + 7 * m)) = g m))
    rw [ih (fun k hk => h1 k (by omega)) (fun k hk => h2 k (by omega)), h1 m (by omega), h2 m (by omega)]
def spkP (lg lh : Nat → Nat → Nat → Nat) (h : Nat → Int32) (n : Nat) (V : Nat → Nat) (f : Nat → Int32) (e : Nat) : Bool := eqE f (dayN lg lh true h n (adf V 7 e)) n
theorem k_hasEdges {x y z : Nat} {W : Nat → Nat} (hG : RG 49 n h W M) (hn : n ≤ 9) (hx : rf x 0 = y) (hl : ln y = 40) (hz : z = n) (ez : M x 2 = nI z) (hk : K (if eqE (M y) W n = true then 1 else 0) M) : wp_X0_hasEdges 49 x M K := by
  unfold wp_X0_hasEdges
  refine loopN (L := fun k i M' => wp_X0_hasEdges_L2 K 49 x k i M') n (fun i M' => M' = M ∧ eqE (M y) W i = true) ?_ 0 (Nat.zero_le _) ⟨rfl, rfl⟩
  intro i M' k hi e ih
  obtain ⟨rfl, he⟩ := e
  show wp_X0_hasEdges_l2 K 49 x (wp_X0_hasEdges_L2 K 49 x k) (nI i) M'
  unfold wp_X0_hasEdges_l2
  rw [hG.1, ez, hx, hl, hz]
  have fin : nI n ≤ nI i → K 1 M' := fun q => by
    have : i = n := by have := le_of_nI q (by omega) (by omega); omega
    subst this
    rw [if_pos he] at hk; exact hk
  refine ⟨fin, fun q => ⟨fun q2 => absurd q2 q, fun _ => ?_⟩⟩
  have hi2 : i < n := lt_of_nI q (by omega) (by omega)
  rw [GF49.one (by omega), nI_clamp (by omega), (hG.2.2.2.2.2 i hi2).2.2.2.1, nI_1]
  refine ⟨GF49.vp (by omega), vp_in_nI (by omega) (by decide), fun e => ih _ hi2 ⟨rfl, ?_⟩, fun e => ?_⟩
  · show (eqE (M' y) W i && decide (nI (W (14 + 7 * i)) = M' y i)) = true
    rw [he, decide_eq_true e]; rfl
  · rw [eqE_no e n hi2, if_neg (by decide)] at hk; exact hk
def spkV (P : Nat → Bool) (c : Int32) : Int32 := if c = 0 then nI (setM P 10) else nI (pcN (setM P 10))
theorem set10 {P : Nat → Bool} : setM P 10 < 1024 := setM_lt 10
theorem x_sparks {a c : Int32} (hS : SA 1 80 n b t V h M) (hH : SHc M) (hg : ∀ j : Nat, j < 4 → a = nI j → 0 ≤ c.toInt → c.toInt ≤ 1 → M (70 + 2 * j) 2 = nI n → ¬ M (70 + 2 * j) 1 = 0 → ∀ M1, PC 0 M M1 → K (spkV (spkP (tvN 2 M) (tvN 7 M) h n V (M (71 + 2 * j))) c) M1)
    (hb : ¬ ((0 ≤ a.toInt ∧ a.toInt ≤ 3) ∧ 0 ≤ c.toInt ∧ c.toInt ≤ 1) → ∀ M1, PC 1 M M1 → K (erA 1).1 M1) (hm : ∀ j : Nat, j < 4 → a = nI j → 0 ≤ c.toInt → c.toInt ≤ 1 → (M (70 + 2 * j) 1 = 0 ∨ ¬ M (70 + 2 * j) 2 = nI n) → ∀ M1, PC 2 M M1 → K (erA 2).1 M1) : wp_X7_sparks a c M K := by
  have hn := hS.rv.1
  have h9 := hS.v0
  unfold wp_X7_sparks
  refine s7 (fun j hj ej => b1a ?_) (fun g => b0a (e7A (i := 1) (by omega) (by omega) (by decide) St.rf (hb (fun x => g x.1))))
  subst ej
  refine w7n 0 1 (by decide) (by decide) (fun g1 g2 => ⟨vp_in_nI hj (by decide), ?_⟩) (fun g => e7A (i := 1) (by omega) (by omega) (by decide) St.rf (hb (fun x => g x.2)))
  rw [nI_clamp (by omega)]
  have em : M 12 3 = nI n := hS.1.1
  unfold wp_X3_isMissing
  dsimp only
  rw [em]
  refine ⟨fun q => b0b ⟨fun e => ?_, fun e => e7A (i := 2) (by omega) (by omega) (by decide) St.rf (hm j hj rfl g1 g2 (Or.inr e))⟩, fun q => b1b (e7A (i := 2) (by omega) (by omega) (by decide) St.rf (hm j hj rfl g1 g2 (Or.inl q)))⟩
  have hk := hg j hj rfl g1 g2 e q
  generalize hP : spkP (tvN 2 M) (tvN 7 M) h n V (M (71 + 2 * j)) = P at hk
  refine loopNA (L := fun k s i M' => wp_X7_sparks_L67 K c (70 + 2 * j) k s i M') 10 (fun i s M' => St SY M M' ∧ s = nI (setM P i)) ?_ 0 (Nat.zero_le _) ⟨St.rf, rfl⟩
  intro i s M' k hi hs ih
  obtain ⟨hs, rfl⟩ := hs
  show wp_X7_sparks_l67 K c (70 + 2 * j) (wp_X7_sparks_L67 K c (70 + 2 * j) k) (nI (setM P i)) (nI i) M'
  unfold wp_X7_sparks_l67
  refine ⟨fun q2 => ?_, fun q2 => ?_⟩
  · have : i = 10 := by have := le_of_nI (a := 10) q2 (by omega) (by omega); omega
    subst this
    have hk := hk M' (PC.of hs)
    unfold spkV at hk
    exact ⟨fun e2 => x_bitCount set10 (by rw [if_neg e2] at hk; exact hk), fun e2 => by rw [if_pos e2] at hk; exact hk⟩
  · have hi2 : i < 10 := lt_of_nI (a := 10) q2 (by omega) (by omega)
    have h0' : adf V 7 i 0 = V 0 := adf_o (by omega)
    have hrv : RV n (adf V 7 i) := rv_gr hS.rv (Or.inl rfl) (by omega)
    have hl := setM_lt (P := P) i
    rw [nI_1, shl_n10 (by omega), or_bit hl (by omega)]
    refine k_think hS.sc hs (fun M1 h1 => k_pass (wh := false) rfl hS.sc hrv (h1.gr hn (Or.inl ⟨rfl, rfl⟩)) (fun M2 h2 => ?_))
    have e71 : M2 (71 + 2 * j) = M (71 + 2 * j) := h2.1 _ (by simp; omega)
    have ef : eqE (M2 (71 + 2 * j)) (dayN (tvN 2 M) (tvN 7 M) false h n (adf V 7 i)) n = P i := by
      rw [← hP, e71]
      exact eqE_congr n (fun _ _ => rfl) (fun k _ => E9.pass (V := adf V 7 i) E9.rf 1 _ (by omega))
    refine k_hasEdges h2.2.1 hn (rf_sh hj) (ln_sh hj) (z := n) rfl (by rw [h2.1 _ (by simp; omega)]; exact e) ?_
    rw [ef]
    by_cases c0 : P i = true
    · rw [if_pos c0]
      exact ⟨fun e2 => absurd e2 (by decide), fun _ => ih _ _ hi2 ⟨h2.1, by rw [setM_s, if_pos c0]⟩⟩
    · rw [if_neg c0]
      exact ⟨fun _ => ih _ _ hi2 ⟨h2.1, by rw [setM_s, if_neg c0]⟩, fun e2 => absurd rfl e2⟩
theorem g_areSo {M0 : Mem} {j : Nat} {W : Nat → Nat} {f : Nat → Int32} (hj : j < 4) (hG : GT n h W M0 M) (hV : RV n W) (hH : HH n h) (hT2 : TQ 2 0 (M0 80) X) (hT7 : TQ 7 1 (M0 80) X) (hf : ∀ k, k < n → M0 89 (40 * j + k) = f k) (hk : ∀ M1, GT n h (dayN (tvN 2 X) (tvN 7 X) true h n W) M0 M1 → K (if eqE f (dayN (tvN 2 X) (tvN 7 X) true h n W) n = true then 1 else 0) M1) : wp_X8_areEdgesSo (nI j) M K := by
  have hn := hV.1
  unfold wp_X8_areEdgesSo
  refine u_day (by decide) hG hV hH hT2 hT7 (fun M2 h2 => ?_)
  have hk := hk M2 h2
  generalize dayN (tvN 2 X) (tvN 7 X) true h n W = U at h2 hk
  refine loopNA (L := fun k a i M' => wp_X8_areEdgesSo_L9 K (nI j) k a i M') n (fun i a M' => M' = M2 ∧ a = (if eqE f U i = true then 1 else 0)) ?_ 0 (a := 1) (Nat.zero_le _) ⟨rfl, rfl⟩
  intro i a M' k hi e ih
  obtain ⟨rfl, rfl⟩ := e
  show wp_X8_areEdgesSo_l9 K (nI j) (wp_X8_areEdgesSo_L9 K (nI j) k) (if eqE f U i = true then 1 else 0) (nI i) M'
  unfold wp_X8_areEdgesSo_l9
  rw [h2.2.2.2.1]
  have es : eqE f U (i + 1) = (eqE f U i && decide (nI (U (14 + 7 * i)) = f i)) := rfl
  refine ⟨fun q => ?_, fun q => ?_⟩
  · have : i = n := by have := le_of_nI q (by omega) (by omega); omega
    subst this
    refine ⟨?_, hk⟩
    split
    · exact Or.inr rfl
    · exact Or.inl rfl
  · have hi2 : i < n := lt_of_nI q (by omega) (by omega)
    rw [nI_1]
    refine ⟨fun e => ih _ _ hi2 ⟨rfl, ?_⟩, fun e => i_it 3 (14 + 7 * i) hn h2.2.2.2 hi2 (by omega) ?_⟩
    · have c0 : eqE f U i = false := by
        cases c : eqE f U i
        · rfl
        · rw [c] at e; exact absurd e (by decide)
      rw [es, c0, Bool.false_and, if_neg (by decide)]
    · have c0 : eqE f U i = true := by
        cases c : eqE f U i
        · rw [c] at e; exact absurd rfl e
        · rfl
      rw [ix40, nI_clamp (by omega), h2.1 89 rfl, hf i hi2]
      refine ⟨vp_in_nI (by omega) (by decide), fun e2 => ih _ _ hi2 ⟨rfl, ?_⟩, fun e2 => ih _ _ hi2 ⟨rfl, ?_⟩⟩
      · rw [es, c0, decide_eq_false e2, Bool.and_false, if_neg (by decide)]
      · rw [es, c0, decide_eq_true e2, Bool.and_true, if_pos rfl]
theorem y_sparks {a c : Int32} (hG : GH n h V X M) (hH : SMc M) (hg : ∀ j : Nat, j < 4 → a = nI j → 0 ≤ c.toInt → c.toInt ≤ 1 → M 88 j = nI n → ¬ M 87 j = 0 → ∀ M1, PM 0 M M1 → K (spkV (spkP (tvN 2 X) (tvN 7 X) h n V (fun k => M 89 (40 * j + k))) c) M1)
    (hb : ¬ ((0 ≤ a.toInt ∧ a.toInt ≤ 3) ∧ 0 ≤ c.toInt ∧ c.toInt ≤ 1) → ∀ M1, PM 1 M M1 → K (erA 1).1 M1) (hm : ∀ j : Nat, j < 4 → a = nI j → 0 ≤ c.toInt → c.toInt ≤ 1 → (M 87 j = 0 ∨ ¬ M 88 j = nI n) → ∀ M1, PM 2 M M1 → K (erA 2).1 M1) : wp_X8_sparks a c M K := by
  obtain ⟨hR, hV, hHH, hT2, hT7, h9⟩ := hG
  have hn := hV.1
  unfold wp_X8_sparks
  refine s8 (fun j hj ej => b1a ?_) (fun g => b0a (e8A (i := 1) (by omega) (by omega) (by decide) St.rf (hb (fun x => g x.1))))
  subst ej
  have hv : vp_in (nI j) 4 := vp_in_nI hj (by decide)
  refine w8n 0 1 (by decide) (by decide) (fun g1 g2 => ?_) (fun g => e8A (i := 1) (by omega) (by omega) (by decide) St.rf (hb (fun x => g x.2)))
  rw [nI_clamp (by omega), hR.1]
  refine ⟨hv, fun q => e8A (i := 2) (by omega) (by omega) (by decide) St.rf (hm j hj rfl g1 g2 (Or.inl q)), fun q => ⟨hv, fun e => ?_, fun e => e8A (i := 2) (by omega) (by omega) (by decide) St.rf (hm j hj rfl g1 g2 (Or.inr e))⟩⟩
  have hk := hg j hj rfl g1 g2 e q
  generalize hP : spkP (tvN 2 X) (tvN 7 X) h n V (fun k => M 89 (40 * j + k)) = P at hk
  refine u_go2 St.rf hR (fun M1 s1 h1 => ?_)
  refine loopNA (L := fun k s i M' => wp_X8_sparks_L71 K (nI j) c k s i M') 10 (fun i s M' => St SMz M M' ∧ GT n h V M M' ∧ s = nI (setM P i)) ?_ 0 (Nat.zero_le _) ⟨s1, h1, rfl⟩
  intro i s M' k hi hs ih
  obtain ⟨hs, hgt, rfl⟩ := hs
  show wp_X8_sparks_l71 K (nI j) c (wp_X8_sparks_L71 K (nI j) c k) (nI (setM P i)) (nI i) M'
  unfold wp_X8_sparks_l71
  refine ⟨fun q2 => ?_, fun q2 => ?_⟩
  · have : i = 10 := by have := le_of_nI (a := 10) q2 (by omega) (by omega); omega
    subst this
    have hk := hk M' (PM.of hs)
    unfold spkV at hk
    exact ⟨fun e2 => g_bits set10 (by rw [if_neg e2] at hk; exact hk), fun e2 => by rw [if_pos e2] at hk; exact hk⟩
  · have hi2 : i < 10 := lt_of_nI (a := 10) q2 (by omega) (by omega)
    have hrv : RV n (adf V 7 i) := rv_gr hV (Or.inl rfl) (by omega)
    have hl := setM_lt (P := P) i
    rw [nI_1, shl_n10 (by omega), or_bit hl (by omega), or_0]
    refine g_areSo hj (hgt.put (k := 7) (x := i) rfl (by omega) (fun q hq => by omega)) hrv hHH hT2 hT7 (fun k _ => rfl) (fun M2 h2 => ?_)
    have ef : eqE (fun k => M 89 (40 * j + k)) (dayN (tvN 2 X) (tvN 7 X) true h n (adf V 7 i)) n = P i := by rw [← hP]; rfl
    rw [ef]
    by_cases c0 : P i = true
    · rw [if_pos c0]
      exact ⟨fun e2 => absurd e2 (by decide), fun _ => u_back2 h2 hR (fun M3 s3 h3 => ih _ _ hi2 ⟨s3, h3, by rw [setM_s, if_pos c0]⟩)⟩
    · rw [if_neg c0]
      exact ⟨fun _ => u_back2 h2 hR (fun M3 s3 h3 => ih _ _ hi2 ⟨s3, h3, by rw [setM_s, if_neg c0]⟩), fun e2 => absurd rfl e2⟩
theorem z3_sparks {a c : Int32} (hI : Inv2 i M) : wp_X7_sparks a c M (fun r1 M1 => wp_X8_sparks a c M1 (fun r2 M2 => r1 = r2 ∧ Inv2 (i + 1) M2)) := by
  obtain ⟨n, b, t, V, h, hS⟩ := hI.2.1
  have hn := hS.rv.1
  have hH := hI.2.2.1
  have inj : ∀ {p q : Nat} {v : Int32}, p < 4 → q < 4 → v = nI p → v = nI q → q = p := fun hp hq e1 e2 => (nI_eq (by omega) (by omega)).mp (e2.symm.trans e1)
  have hm : ∀ {M1 : Mem}, St SX M M1 → SMc M1 := fun h j hj => by rw [h 88 rfl]; exact hH.m j hj
  have ok : ∀ {j : Nat}, j < 4 → a = nI j → 0 ≤ c.toInt → c.toInt ≤ 1 → ¬ ¬ ((0 ≤ a.toInt ∧ a.toInt ≤ 3) ∧ 0 ≤ c.toInt ∧ c.toInt ≤ 1) := fun hj e g1 g2 g => g ⟨by rw [e, nI_toInt (by omega)]; omega, g1, g2⟩
  have e8 : ∀ j : Nat, j < 4 → M (70 + 2 * j) 1 = M 87 j ∧ M (70 + 2 * j) 2 = M 88 j := fun j hj => by obtain ⟨z, hz, f1, f2, f3, f4⟩ := hH j hj; exact ⟨f3, by rw [f1, f2]⟩
  refine x_sparks hS hH.c (fun j hj ej g1 g2 ez hbt M1 p1 => ?_) (fun g M1 p1 => ?_) (fun j hj ej g1 g2 hd M1 p1 => ?_)
  · obtain ⟨z', hz', f1, f2, f3, f4⟩ := hH j hj
    refine y_sparks (hS.gh (p1.1 80 rfl)) (hm p1.1) (fun j' hj' ej' _ _ ez' hb' M2 p2 => ⟨?_, hI.th p1.1 p2.1⟩) (fun g => absurd g (ok hj ej g1 g2)) (fun j' hj' ej' _ _ hd => ?_)
    · have := inj hj hj' ej ej'; subst this
      rw [p1.1 89 rfl]
      have hp : setM (spkP (tvN 2 M) (tvN 7 M) h n V (M (71 + 2 * j'))) 10 = setM (spkP (tvN 2 M) (tvN 7 M) h n V (fun k => M 89 (40 * j' + k))) 10 := setM_congr 10 (fun q _ => eqE_congr n (fun k hk => f4 k (by omega)) (fun _ _ => rfl))
      unfold spkV
      rw [hp]
    · have := inj hj hj' ej ej'; subst this
      rw [p1.1 87 rfl, p1.1 88 rfl, ← (e8 j' hj).1, ← (e8 j' hj).2] at hd
      rcases hd with hd | hd
      · exact absurd hd hbt
      · exact absurd ez hd
  · exact y_sparks (hS.gh (p1.1 80 rfl)) (hm p1.1) (fun j hj ej g1 g2 => absurd g (ok hj ej g1 g2)) (fun _ M2 p2 => ⟨rfl, hI.th p1.1 p2.1⟩) (fun j hj ej g1 g2 => absurd g (ok hj ej g1 g2))
  · refine y_sparks (hS.gh (p1.1 80 rfl)) (hm p1.1) (fun j' hj' ej' _ _ ez' hb' => ?_) (fun g => absurd g (ok hj ej g1 g2)) (fun j' hj' ej' _ _ hd M2 p2 => ⟨rfl, hI.th p1.1 p2.1⟩)
    have := inj hj hj' ej ej'; subst this
    rw [p1.1 87 rfl, ← (e8 j' hj).1] at hb'
    rw [p1.1 88 rfl, ← (e8 j' hj).2] at ez'
    rcases hd with hd | hd
    · exact absurd hd hb'
    · exact absurd ez' hd
end AQ
