section AL
variable {n b t i : Nat} {h : Nat → Int32} {V : Nat → Nat} {M X : Mem} {K : Int32 → Mem → Prop}
theorem u_go2 {M0 : Mem} {K : Mem → Prop} (hs : St SMz M0 M) (hR : RR n h V (M0 80)) (hk : ∀ M1, St SMz M0 M1 → GT n h V M0 M1 → K M1) : wp_X8_moveAll 80 82 M K :=
  m_move rfl rfl (by decide) (fun M1 h1 h2 h3 => by
    have e80 : M1 80 = M0 80 := (h1 80 rfl).trans (hs 80 rfl)
    exact hk _ (hs.tr (h1.w (by simp <;> omega))) ⟨(hs.w (by simp <;> omega)).tr (h1.w (by simp <;> omega)), fun k hk => by rw [h2 k hk, hs 80 rfl], fun k _ => by rw [e80], by rw [e80]; exact hR⟩)
/-! start, pace: the first that ends most -/
def mstF (f : Nat → Nat) : Nat → Int32 × Int32
  | 0 => (0, -1)
  | m + 1 => if nI (f m) ≤ (mstF f m).2 then mstF f m else (nI m, nI (f m))
def mstN (lg lh : Nat → Nat → Nat → Nat) (h : Nat → Int32) (n s N : Nat) (V : Nat → Nat) (m : Nat) : Nat := pcN (endM (passN lg lh true h n N (adf V s m)) n)
def mstA (lg lh : Nat → Nat → Nat → Nat) (h : Nat → Int32) (n s : Nat) (V : Nat → Nat) (a c : Int32) : Ans := if (0 ≤ a.toInt ∧ a.toInt ≤ 60) ∧ 0 ≤ c.toInt ∧ c.toInt ≤ 1 then (if c = 0 then (mstF (mstN lg lh h n s a.toNatClampNeg V) 10).1 else (mstF (mstN lg lh h n s a.toNatClampNeg V) 10).2, 0) else erA 1
theorem C_start {a c : Int32} (hS : SA 1 80 n b t V h M) (hk : ∀ M1, PC (mstA (tvN 2 M) (tvN 7 M) h n 7 V a c).2 M M1 → K (mstA (tvN 2 M) (tvN 7 M) h n 7 V a c).1 M1) : wp_X7_start a c M K := by
  have h9 := hS.v0
  have hn := hS.rv.1
  unfold wp_X7_start
  unfold mstA at hk
  have bad : ¬ ((0 ≤ a.toInt ∧ a.toInt ≤ 60) ∧ 0 ≤ c.toInt ∧ c.toInt ≤ 1) → wp_X7_refuse (-1000000001) M K := fun g => by
    rw [if_neg g] at hk
    exact e7A (i := 1) (by omega) (by omega) (by decide) St.rf hk
  refine w7z 0 60 (by decide) (by decide) (fun g1 g2 => ?_) (fun g => bad (fun x => g x.1))
  refine w7n 0 1 (by decide) (by decide) (fun g3 g4 => ?_) (fun g => bad (fun x => g x.2))
  rw [if_pos ⟨⟨g1, g2⟩, g3, g4⟩] at hk
  obtain ⟨N, hN, rfl⟩ := nat_of 60 g1 g2 (by decide)
  rw [nI_clamp (by omega)] at hk
  dsimp only at hk
  refine loopNA (α := Int32 × Int32) (L := fun k a i M' => wp_X7_start_L34 K (nI N) c k a.1 a.2 i M') 10 (fun i a M' => St SY M M' ∧ a = mstF (mstN (tvN 2 M) (tvN 7 M) h n 7 N V) i) ?_ 0 (a := (0, -1)) (Nat.zero_le _) ⟨St.rf, rfl⟩
  intro i a M' k hi hs ih
  obtain ⟨hs, rfl⟩ := hs
  show wp_X7_start_l34 K (nI N) c (wp_X7_start_L34 K (nI N) c k) _ _ (nI i) M'
  unfold wp_X7_start_l34
  refine ⟨fun q => ?_, fun q => ?_⟩
  · have : i = 10 := by have := le_of_nI (a := 10) q (by omega) (by omega); omega
    subst this
    have hk := hk M' (PC.of hs)
    exact ⟨fun e => by rw [if_neg e] at hk; exact hk, fun e => by rw [if_pos e] at hk; exact hk⟩
  · have hi2 : i < 10 := lt_of_nI (a := 10) q (by omega) (by omega)
    rw [nI_1]
    have hrv : RV n (adf V 7 i) := rv_gr hS.rv (Or.inl rfl) (by omega)
    have h0' : adf V 7 i 0 = V 0 := adf_o (by omega)
    refine k_think hS.sc hs (fun M1 h1 => k_days hN hS.sc hrv (by omega) (h1.gr hn (Or.inl ⟨rfl, rfl⟩)) (fun M2 h2 => ?_))
    have hv2 := (rv_pass (lg := tvN 2 M) (lh := tvN 7 M) (wh := false) (h := h) hrv N (by omega)).1
    have e1 : mstF (mstN (tvN 2 M) (tvN 7 M) h n 7 N V) (i + 1) = (if nI (mstN (tvN 2 M) (tvN 7 M) h n 7 N V i) ≤ (mstF (mstN (tvN 2 M) (tvN 7 M) h n 7 N V) i).2 then mstF (mstN (tvN 2 M) (tvN 7 M) h n 7 N V) i else (nI i, nI (mstN (tvN 2 M) (tvN 7 M) h n 7 N V i))) := rfl
    have ef : pcN (endM (passN (tvN 2 M) (tvN 7 M) false h n N (adf V 7 i)) n) = mstN (tvN 2 M) (tvN 7 M) h n 7 N V i := by rw [ends_9]; rfl
    refine k_endedMany GF49 h2.2.1 hv2 ⟨fun e => ih _ _ hi2 ⟨h2.1, ?_⟩, fun e => k_endedMany GF49 h2.2.1 hv2 (ih (nI i, _) _ hi2 ⟨h2.1, ?_⟩)⟩
    · rw [ef] at e
      rw [e1, if_pos e]
    · rw [ef] at e ⊢
      rw [e1, if_neg e]
      rfl
theorem C_pace {a c : Int32} (hS : SA 1 80 n b t V h M) (hk : ∀ M1, PC (mstA (tvN 2 M) (tvN 7 M) h n 8 V a c).2 M M1 → K (mstA (tvN 2 M) (tvN 7 M) h n 8 V a c).1 M1) : wp_X7_pace a c M K := by
  have h9 := hS.v0
  have hn := hS.rv.1
  unfold wp_X7_pace
  unfold mstA at hk
  have bad : ¬ ((0 ≤ a.toInt ∧ a.toInt ≤ 60) ∧ 0 ≤ c.toInt ∧ c.toInt ≤ 1) → wp_X7_refuse (-1000000001) M K := fun g => by
    rw [if_neg g] at hk
    exact e7A (i := 1) (by omega) (by omega) (by decide) St.rf hk
  refine w7z 0 60 (by decide) (by decide) (fun g1 g2 => ?_) (fun g => bad (fun x => g x.1))
  refine w7n 0 1 (by decide) (by decide) (fun g3 g4 => ?_) (fun g => bad (fun x => g x.2))
  rw [if_pos ⟨⟨g1, g2⟩, g3, g4⟩] at hk
  obtain ⟨N, hN, rfl⟩ := nat_of 60 g1 g2 (by decide)
  rw [nI_clamp (by omega)] at hk
  dsimp only at hk
  refine loopNA (α := Int32 × Int32) (L := fun k a i M' => wp_X7_pace_L34 K (nI N) c k a.1 a.2 i M') 10 (fun i a M' => St SY M M' ∧ a = mstF (mstN (tvN 2 M) (tvN 7 M) h n 8 N V) i) ?_ 0 (a := (0, -1)) (Nat.zero_le _) ⟨St.rf, rfl⟩
  intro i a M' k hi hs ih
  obtain ⟨hs, rfl⟩ := hs
  show wp_X7_pace_l34 K (nI N) c (wp_X7_pace_L34 K (nI N) c k) _ _ (nI i) M'
  unfold wp_X7_pace_l34
  refine ⟨fun q => ?_, fun q => ?_⟩
  · have : i = 10 := by have := le_of_nI (a := 10) q (by omega) (by omega); omega
    subst this
    have hk := hk M' (PC.of hs)
    exact ⟨fun e => by rw [if_neg e] at hk; exact hk, fun e => by rw [if_pos e] at hk; exact hk⟩
  · have hi2 : i < 10 := lt_of_nI (a := 10) q (by omega) (by omega)
    rw [nI_1]
    have hrv : RV n (adf V 8 i) := rv_gr hS.rv (Or.inr rfl) (by omega)
    have h0' : adf V 8 i 0 = V 0 := adf_o (by omega)
    refine k_think hS.sc hs (fun M1 h1 => k_days hN hS.sc hrv (by omega) (h1.gr hn (Or.inr ⟨rfl, rfl⟩)) (fun M2 h2 => ?_))
    have hv2 := (rv_pass (lg := tvN 2 M) (lh := tvN 7 M) (wh := false) (h := h) hrv N (by omega)).1
    have e1 : mstF (mstN (tvN 2 M) (tvN 7 M) h n 8 N V) (i + 1) = (if nI (mstN (tvN 2 M) (tvN 7 M) h n 8 N V i) ≤ (mstF (mstN (tvN 2 M) (tvN 7 M) h n 8 N V) i).2 then mstF (mstN (tvN 2 M) (tvN 7 M) h n 8 N V) i else (nI i, nI (mstN (tvN 2 M) (tvN 7 M) h n 8 N V i))) := rfl
    have ef : pcN (endM (passN (tvN 2 M) (tvN 7 M) false h n N (adf V 8 i)) n) = mstN (tvN 2 M) (tvN 7 M) h n 8 N V i := by rw [ends_9]; rfl
    refine k_endedMany GF49 h2.2.1 hv2 ⟨fun e => ih _ _ hi2 ⟨h2.1, ?_⟩, fun e => k_endedMany GF49 h2.2.1 hv2 (ih (nI i, _) _ hi2 ⟨h2.1, ?_⟩)⟩
    · rw [ef] at e
      rw [e1, if_pos e]
    · rw [ef] at e ⊢
      rw [e1, if_neg e]
      rfl
/-- the row but for a place that is tried -/
def RZ (a : Nat) (M0 M : Mem) : Prop := St SMy M0 M ∧ ∀ k, k ≠ a → M 80 k = M0 80 k
theorem RZ.back {a : Nat} {M0 M : Mem} (hz : RZ a M0 M) : St SMz M0 (up M 80 a (M0 80 a)) := fun c hc => by
  by_cases e : c = 80
  · subst e
    funext k
    by_cases e2 : k = a
    · subst e2; rw [up_same]
    · rw [up_slot _ e2]; exact hz.2 k e2
  · rw [up_o c e]; exact hz.1 c (by simp at hc ⊢; omega)
theorem RZ.put {a : Nat} {x : Int32} {M0 M : Mem} (hz : RZ a M0 M) : RZ a M0 (up M 80 a x) := ⟨hz.1.up rfl, fun k hk => by rw [up_slot _ hk]; exact hz.2 k hk⟩
theorem RZ.th {a : Nat} {M0 M M1 : Mem} (hz : RZ a M0 M) (hs : St SMz M M1) : RZ a M0 M1 := ⟨hz.1.tr (hs.w (by simp <;> omega)), fun k hk => by rw [hs 80 rfl]; exact hz.2 k hk⟩
theorem RZ.rr {a x : Nat} {M0 M : Mem} (hz : RZ a M0 M) (hR : RR n h V (M0 80)) (h2 : a ≠ 2) (h4 : ∀ q : Nat, q < n → a ≠ 15 + 7 * q) : RR n h (adf V a x) (up M 80 a (nI x) 80) := by
  refine ⟨by rw [up_slot _ (Ne.symm h2), hz.2 2 (Ne.symm h2)]; exact hR.1, fun q hq => by rw [up_slot _ (Ne.symm (h4 q hq)), hz.2 _ (Ne.symm (h4 q hq))]; exact hR.2.1 q hq, fun k hk => ?_⟩
  by_cases e : k = a
  · rw [e, up_same, adf_s]
  · rw [up_slot _ e, adf_o e, hz.2 k e]; exact hR.2.2 k hk
theorem RZ.tq {a t' w : Nat} {x : Int32} {M0 M : Mem} (hz : RZ a M0 M) (hw : w < 2) (ha : a < 74) (h5 : a ≠ 5) (h6 : a ≠ 6) (hT : TQ t' w (M0 80) X) : TQ t' w (up M 80 a x 80) X := hT.keep rfl rfl rfl rfl (by rw [up_slot _ (by omega), hz.2 _ (by omega)]) (fun j _ => by rw [up_slot _ (by omega), hz.2 _ (by omega)])
theorem u_most {s N : Nat} {c : Int32} (hs7 : s = 7 ∨ s = 8) (hN : N ≤ 60) (hR : RR n h V (M 80)) (hV : RV n V) (hH : HH n h) (hT2 : TQ 2 0 (M 80) X) (hT7 : TQ 7 1 (M 80) X) (h9 : V 0 ≤ 9999) (hk : ∀ M1, St SMz M M1 → K (if c = 0 then (mstF (mstN (tvN 2 X) (tvN 7 X) h n s N V) 10).1 else (mstF (mstN (tvN 2 X) (tvN 7 X) h n s N V) 10).2) M1) : wp_X8_mostOver (nI s) (nI N) c M K := by
  have hn := hV.1
  have hv : vp_in (nI s) 244 := vp_in_nI (by omega) (by decide)
  unfold wp_X8_mostOver
  refine ⟨hv, ?_⟩
  rw [nI_clamp (by omega)]
  refine loopNA (α := Int32 × Int32) (L := fun k a i M' => wp_X8_mostOver_L17 K (nI s) (nI N) c (M 80 s) k a.1 a.2 i M') 10 (fun i a M' => RZ s M M' ∧ a = mstF (mstN (tvN 2 X) (tvN 7 X) h n s N V) i) ?_ 0 (a := (0, -1)) (Nat.zero_le _) ⟨⟨St.rf, fun _ _ => rfl⟩, rfl⟩
  intro i a M' k hi hs ih
  obtain ⟨hs, rfl⟩ := hs
  show wp_X8_mostOver_l17 K (nI s) (nI N) c (M 80 s) (wp_X8_mostOver_L17 K (nI s) (nI N) c (M 80 s) k) _ _ (nI i) M'
  unfold wp_X8_mostOver_l17
  rw [nI_clamp (by omega)]
  refine ⟨fun q => ?_, fun q => ⟨hv, ?_⟩⟩
  · have : i = 10 := by have := le_of_nI (a := 10) q (by omega) (by omega); omega
    subst this
    have hk := hk _ hs.back
    exact ⟨hv, fun e => by rw [if_neg e] at hk; exact hk, fun e => by rw [if_pos e] at hk; exact hk⟩
  · have hi2 : i < 10 := lt_of_nI (a := 10) q (by omega) (by omega)
    rw [nI_1]
    have hrv : RV n (adf V s i) := rv_gr hV hs7 (by omega)
    have h0' : adf V s i 0 = V 0 := adf_o (by omega)
    refine u_over hN (hs.rr (x := i) hR (by omega) (fun q hq => by omega)) hrv hH (hs.tq (by omega) (by omega) (by omega) (by omega) hT2) (hs.tq (by omega) (by omega) (by omega) (by omega) hT7) (by omega) (fun M1 h1 => ?_)
    have hl := endM_lt (V := passN (tvN 2 X) (tvN 7 X) true h n N (adf V s i)) n
    have hp := pow_9 hn
    refine g_bits (by omega) ?_
    have h3 := hs.put.th h1
    have ef : pcN (endM (passN (tvN 2 X) (tvN 7 X) true h n N (adf V s i)) n) = mstN (tvN 2 X) (tvN 7 X) h n s N V i := rfl
    rw [ef]
    have e1 : mstF (mstN (tvN 2 X) (tvN 7 X) h n s N V) (i + 1) = (if nI (mstN (tvN 2 X) (tvN 7 X) h n s N V i) ≤ (mstF (mstN (tvN 2 X) (tvN 7 X) h n s N V) i).2 then mstF (mstN (tvN 2 X) (tvN 7 X) h n s N V) i else (nI i, nI (mstN (tvN 2 X) (tvN 7 X) h n s N V i))) := rfl
    refine ⟨fun e => ⟨fun _ => ih _ _ hi2 ⟨h3, by rw [e1, if_pos e]⟩, fun e' => absurd e e'⟩, fun e => ⟨fun e' => absurd e' e, fun _ => ih (nI i, _) _ hi2 ⟨h3, by rw [e1, if_neg e]; rfl⟩⟩⟩
theorem G_start {a c : Int32} (hG : GH n h V X M) (hk : ∀ M1, PM (mstA (tvN 2 X) (tvN 7 X) h n 7 V a c).2 M M1 → K (mstA (tvN 2 X) (tvN 7 X) h n 7 V a c).1 M1) : wp_X8_start a c M K := by
  obtain ⟨hR, hV, hH, hT2, hT7, h9⟩ := hG
  unfold wp_X8_start
  unfold mstA at hk
  have bad : ¬ ((0 ≤ a.toInt ∧ a.toInt ≤ 60) ∧ 0 ≤ c.toInt ∧ c.toInt ≤ 1) → wp_X8_errs (-1000000001) M K := fun g => by
    rw [if_neg g] at hk
    exact e8A (i := 1) (by omega) (by omega) (by decide) St.rf hk
  refine w8z 0 60 (by decide) (by decide) (fun g1 g2 => ?_) (fun g => bad (fun x => g x.1))
  refine w8z 0 1 (by decide) (by decide) (fun g3 g4 => ?_) (fun g => bad (fun x => g x.2))
  rw [if_pos ⟨⟨g1, g2⟩, g3, g4⟩] at hk
  obtain ⟨N, hN, rfl⟩ := nat_of 60 g1 g2 (by decide)
  rw [nI_clamp (by omega)] at hk
  dsimp only at hk
  exact u_most (Or.inl rfl) hN hR hV hH hT2 hT7 h9 (fun M1 h1 => hk _ (PM.of h1))
theorem G_pace {a c : Int32} (hG : GH n h V X M) (hk : ∀ M1, PM (mstA (tvN 2 X) (tvN 7 X) h n 8 V a c).2 M M1 → K (mstA (tvN 2 X) (tvN 7 X) h n 8 V a c).1 M1) : wp_X8_pace a c M K := by
  obtain ⟨hR, hV, hH, hT2, hT7, h9⟩ := hG
  unfold wp_X8_pace
  unfold mstA at hk
  have bad : ¬ ((0 ≤ a.toInt ∧ a.toInt ≤ 60) ∧ 0 ≤ c.toInt ∧ c.toInt ≤ 1) → wp_X8_errs (-1000000001) M K := fun g => by
    rw [if_neg g] at hk
    exact e8A (i := 1) (by omega) (by omega) (by decide) St.rf hk
  refine w8z 0 60 (by decide) (by decide) (fun g1 g2 => ?_) (fun g => bad (fun x => g x.1))
  refine w8z 0 1 (by decide) (by decide) (fun g3 g4 => ?_) (fun g => bad (fun x => g x.2))
  rw [if_pos ⟨⟨g1, g2⟩, g3, g4⟩] at hk
  obtain ⟨N, hN, rfl⟩ := nat_of 60 g1 g2 (by decide)
  rw [nI_clamp (by omega)] at hk
  dsimp only at hk
  exact u_most (Or.inr rfl) hN hR hV hH hT2 hT7 h9 (fun M1 h1 => hk _ (PM.of h1))
theorem z3_start {a c : Int32} (hI : Inv2 i M) : wp_X7_start a c M (fun r1 M1 => wp_X8_start a c M1 (fun r2 M2 => r1 = r2 ∧ Inv2 (i + 1) M2)) := by
  obtain ⟨n, b, t, V, h, hS⟩ := hI.2.1
  exact z_of (A := mstA (tvN 2 M) (tvN 7 M) h n 7 V a c) (W7 := wp_X7_start a c) (W8 := wp_X8_start a c) hI (fun K hk => C_start hS hk) (fun M1 h1 K hk => G_start (hS.gh (h1 80 rfl)) hk)
theorem z3_pace {a c : Int32} (hI : Inv2 i M) : wp_X7_pace a c M (fun r1 M1 => wp_X8_pace a c M1 (fun r2 M2 => r1 = r2 ∧ Inv2 (i + 1) M2)) := by
  obtain ⟨n, b, t, V, h, hS⟩ := hI.2.1
  exact z_of (A := mstA (tvN 2 M) (tvN 7 M) h n 8 V a c) (W7 := wp_X7_pace a c) (W8 := wp_X8_pace a c) hI (fun K hk => C_pace hS hk) (fun M1 h1 K hk => G_pace (hS.gh (h1 80 rfl)) hk)
/-! first: whose end spares most harm -/
def fstF (f : Nat → Nat) : Nat → Nat × Nat
  | 0 => (0, 100000)
  | m + 1 => if (fstF f m).2 ≤ f m then fstF f m else (m, f m)
def fstN (lg lh : Nat → Nat → Nat → Nat) (h : Nat → Int32) (n N : Nat) (V : Nat → Nat) (q : Nat) : Nat := passN lg lh true h n N (adf V (16 + 7 * q) 1) 9
def fstA (lg lh : Nat → Nat → Nat → Nat) (h : Nat → Int32) (n : Nat) (V : Nat → Nat) (a c : Int32) : Ans := if (0 ≤ a.toInt ∧ a.toInt ≤ 60) ∧ 0 ≤ c.toInt ∧ c.toInt ≤ 1 then (if n = 0 then erA 2 else (if c = 0 then nI (fstF (fstN lg lh h n a.toNatClampNeg V) n).1 else nI (fstF (fstN lg lh h n a.toNatClampNeg V) n).2 - nI (V 9), 0)) else erA 1
theorem fstF_lt {f : Nat → Nat} (hf : ∀ q, f q < 100000) : ∀ m, 0 < m → (fstF f m).1 < m ∧ (fstF f m).2 ≤ 99999 := by
  intro m
  induction m with
  | zero => intro h; omega
  | succ m ih =>
    intro _
    have hm := hf m
    show (if (fstF f m).2 ≤ f m then fstF f m else (m, f m)).1 < m + 1 ∧ (if (fstF f m).2 ≤ f m then fstF f m else (m, f m)).2 ≤ 99999
    split
    · next c =>
      rcases Nat.eq_zero_or_pos m with e | e
      · subst e
        have c0 : (100000 : Nat) ≤ f 0 := c
        omega
      · have := ih e; omega
    · exact ⟨by show m < m + 1; omega, by show f m ≤ 99999; omega⟩
theorem rv_over {q : Nat} (hV : RV n V) (hq : q < n) : RV n (adf V (16 + 7 * q) 1) := hV.putA (s := 16) hq (by omega) (by omega)
theorem fstN_lt {lg lh : Nat → Nat → Nat → Nat} {N q : Nat} (hV : RV n V) (hq : q < n) (h9 : V 0 ≤ 9999) (hN : N ≤ 60) : fstN lg lh h n N V q ≤ 99999 := by
  have := (rv_pass (lg := lg) (lh := lh) (wh := true) (h := h) (rv_over hV hq) N (by rw [adf_o (by omega)]; omega)).1
  exact this.2.2.2.2.1
theorem fstF_lt' {f : Nat → Nat} {m : Nat} (hf : ∀ q, q < m → f q ≤ 99999) : 0 < m → (fstF f m).1 < m ∧ (fstF f m).2 ≤ 99999 := by
  intro h0
  have key : ∀ k, k ≤ m → fstF f k = fstF (fun q => min (f q) 99999) k := by
    intro k
    induction k with
    | zero => intro _; rfl
    | succ k ih =>
      intro hk
      show (if (fstF f k).2 ≤ f k then fstF f k else (k, f k)) = (if (fstF (fun q => min (f q) 99999) k).2 ≤ min (f k) 99999 then fstF (fun q => min (f q) 99999) k else (k, min (f k) 99999))
      rw [ih (by omega), show min (f k) 99999 = f k from Nat.min_eq_left (hf k (by omega))]
  rw [key m (Nat.le_refl m)]
  exact fstF_lt (fun q => by show min (f q) 99999 < 100000; omega) m h0
theorem C_first {a c : Int32} (hS : SA 1 80 n b t V h M) (hk : ∀ M1, PC (fstA (tvN 2 M) (tvN 7 M) h n V a c).2 M M1 → K (fstA (tvN 2 M) (tvN 7 M) h n V a c).1 M1) : wp_X7_first a c M K := by
  have h9 := hS.v0
  have hn := hS.rv.1
  unfold wp_X7_first
  unfold fstA at hk
  have bad : ¬ ((0 ≤ a.toInt ∧ a.toInt ≤ 60) ∧ 0 ≤ c.toInt ∧ c.toInt ≤ 1) → wp_X7_refuse (-1000000001) M K := fun g => by
    rw [if_neg g] at hk
    exact e7A (i := 1) (by omega) (by omega) (by decide) St.rf hk
  refine w7z 0 60 (by decide) (by decide) (fun g1 g2 => ?_) (fun g => bad (fun x => g x.1))
  refine w7n 0 1 (by decide) (by decide) (fun g3 g4 => ?_) (fun g => bad (fun x => g x.2))
  rw [if_pos ⟨⟨g1, g2⟩, g3, g4⟩] at hk
  obtain ⟨N, hN, rfl⟩ := nat_of 60 g1 g2 (by decide)
  rw [nI_clamp (by omega)] at hk
  have hfl : ∀ q, q < n → fstN (tvN 2 M) (tvN 7 M) h n N V q ≤ 99999 := fun q hq => fstN_lt hS.rv hq h9 hN
  generalize hf : fstN (tvN 2 M) (tvN 7 M) h n N V = f at hk hfl
  refine loopNA (α := Int32 × Int32) (L := fun k a i M' => wp_X7_first_L34 K (nI N) c k a.1 a.2 i M') n (fun i a M' => St SY M M' ∧ a = (if i = 0 then (-1, 0) else (nI (fstF f i).1, nI (fstF f i).2))) ?_ 0 (a := (-1, 0)) (Nat.zero_le _) ⟨St.rf, rfl⟩
  intro i a M' k hi hs ih
  obtain ⟨hs, ha⟩ := hs
  show wp_X7_first_l34 K (nI N) c (wp_X7_first_L34 K (nI N) c k) a.1 a.2 (nI i) M'
  unfold wp_X7_first_l34
  have e12 : M' 12 = M 12 := hs 12 rfl
  have e3 : M 12 3 = nI n := hS.1.1
  have e7 : M 12 7 = nI (V 9) := hS.2.1
  rw [e12, e3, e7]
  refine ⟨fun q => ?_, fun q => ?_⟩
  · have hin : i = n := by have := le_of_nI q (by omega) (by omega); omega
    subst hin
    by_cases g : i = 0
    · rw [if_pos g] at ha hk
      rw [ha]
      exact ⟨fun e => absurd e (by decide), fun _ => e7A (i := 2) (by omega) (by omega) (by decide) hs hk⟩
    · rw [if_neg g] at ha hk
      have hk := hk M' (PC.of hs)
      rw [ha]
      have h1 := (fstF_lt' hfl (by omega)).1
      refine ⟨fun _ => ⟨fun e => by rw [if_neg e] at hk; exact hk, fun e => by rw [if_pos e] at hk; exact hk⟩, fun e => absurd (nI_le (a := 0) (b := (fstF f i).1) (by omega) (by omega)) e⟩
  · have hi2 : i < n := lt_of_nI q (by omega) (by omega)
    rw [nI_1, nI_clamp (by omega)]
    have h0' : adf V (16 + 7 * i) 1 0 = V 0 := adf_o (by omega)
    have ef : passN (tvN 2 M) (tvN 7 M) true h n N (adf V (16 + 7 * i) 1) 9 = f i := by rw [← hf]; rfl
    refine k_think hS.sc hs (fun M1 h1 => ⟨vp_in_nI (by omega) (by decide), k_daysH hN hS.sc (rv_over hS.rv hi2) (by omega) (h1.put (s := 16) (k := 6) (x := 1) hi2 hn (Or.inr (Or.inl ⟨rfl, rfl⟩))) (fun M2 h2 => ?_)⟩)
    have e2 : M2 49 7 = nI (f i) := by rw [h2.2.2, ef]
    rw [e2]
    have hfi := hfl i hi2
    by_cases g : i = 0
    · rw [if_pos g] at ha
      rw [ha]
      refine ⟨fun _ => ih (nI i, _) _ hi2 ⟨h2.1, ?_⟩, fun e => absurd (by decide) e⟩
      rw [if_neg (by omega)]
      subst g
      show _ = (nI (if (100000 : Nat) ≤ f 0 then ((0, 100000) : Nat × Nat) else (0, f 0)).1, nI (if (100000 : Nat) ≤ f 0 then ((0, 100000) : Nat × Nat) else (0, f 0)).2)
      rw [if_neg (by omega)]
      rfl
    · rw [if_neg g] at ha
      rw [ha]
      obtain ⟨h3, h4⟩ := fstF_lt' (f := f) (m := i) (fun q hq => hfl q (by omega)) (by omega)
      have es : fstF f (i + 1) = (if (fstF f i).2 ≤ f i then fstF f i else (i, f i)) := rfl
      refine ⟨fun e => absurd e (nI_pos (by omega)), fun _ => pk_le (fstF f i).2 (f i) (fun c1 => ih (_, _) _ hi2 ⟨h2.1, ?_⟩) (fun c1 => ih (nI i, _) _ hi2 ⟨h2.1, ?_⟩)⟩
      · (rw [if_neg (by omega), es, if_pos c1]; try rfl)
      · (rw [if_neg (by omega), es, if_neg (by omega)]; try rfl)
theorem G_first {a c : Int32} (hG : GH n h V X M) (hk : ∀ M1, PM (fstA (tvN 2 X) (tvN 7 X) h n V a c).2 M M1 → K (fstA (tvN 2 X) (tvN 7 X) h n V a c).1 M1) : wp_X8_first a c M K := by
  obtain ⟨hR, hV, hH, hT2, hT7, h9⟩ := hG
  have hn := hV.1
  unfold wp_X8_first
  unfold fstA at hk
  have bad : ¬ ((0 ≤ a.toInt ∧ a.toInt ≤ 60) ∧ 0 ≤ c.toInt ∧ c.toInt ≤ 1) → wp_X8_errs (-1000000001) M K := fun g => by
    rw [if_neg g] at hk
    exact e8A (i := 1) (by omega) (by omega) (by decide) St.rf hk
  refine w8z 0 60 (by decide) (by decide) (fun g1 g2 => ?_) (fun g => bad (fun x => g x.1))
  refine w8n 0 1 (by decide) (by decide) (fun g3 g4 => ?_) (fun g => bad (fun x => g x.2))
  rw [if_pos ⟨⟨g1, g2⟩, g3, g4⟩] at hk
  obtain ⟨N, hN, rfl⟩ := nat_of 60 g1 g2 (by decide)
  rw [nI_clamp (by omega)] at hk
  rw [hR.1]
  refine ⟨fun e => ?_, fun e => ?_⟩
  · have hne : n ≠ 0 := fun g => e (by rw [g]; rfl)
    rw [if_neg hne] at hk
    have hfl : ∀ q, q < n → fstN (tvN 2 X) (tvN 7 X) h n N V q ≤ 99999 := fun q hq => fstN_lt hV hq h9 hN
    generalize hf : fstN (tvN 2 X) (tvN 7 X) h n N V = f at hk hfl
    refine u_go2 St.rf hR (fun M1 s1 h1 => ?_)
    refine loopNA (α := Int32 × Int32) (L := fun k a i M' => wp_X8_first_L63 K (nI N) c k a.1 a.2 i M') n (fun i a M' => St SMz M M' ∧ GT n h V M M' ∧ a = (nI (fstF f i).1, nI (fstF f i).2)) ?_ 0 (a := (0, 100000)) (Nat.zero_le _) ⟨s1, h1, rfl⟩
    intro i a M' k hi hs ih
    obtain ⟨hs, hg, rfl⟩ := hs
    show wp_X8_first_l63 K (nI N) c (wp_X8_first_L63 K (nI N) c k) (nI (fstF f i).1) (nI (fstF f i).2) (nI i) M'
    unfold wp_X8_first_l63
    rw [hg.2.1 2 (by omega), hR.1]
    refine ⟨fun q => ?_, fun q => ?_⟩
    · have hin : i = n := by have := le_of_nI q (by omega) (by omega); omega
      subst hin
      have hk := hk M' (PM.of hs)
      rw [hs 80 rfl, hR.2.2 9 (Or.inr (Or.inl (by omega)))]
      exact ⟨fun e => by rw [if_neg e] at hk; exact hk, fun e => by rw [if_pos e] at hk; exact hk⟩
    · have hi2 : i < n := lt_of_nI q (by omega) (by omega)
      rw [nI_1]
      have h0' : adf V (16 + 7 * i) 1 0 = V 0 := adf_o (by omega)
      have ef : passN (tvN 2 X) (tvN 7 X) true h n N (adf V (16 + 7 * i) 1) 9 = f i := by rw [← hf]; rfl
      refine i_gets 5 (16 + 7 * i) 1 hn hg.2.2.2 hi2 (by omega) (fun hr => u_passes hN (hg.smv (SMV.rf.put (vol_on (w := 5) (by omega) (by omega))) hr) (rv_over hV hi2) (by omega) hH hT2 hT7 (fun M2 h2 => u_back2 h2 hR (fun M3 s3 h3 => ?_)))
      have e2 : M2 80 9 = nI (f i) := by rw [h2.2.2.2.2.2 9 (Or.inr (Or.inl (by omega))), ef]
      rw [e2]
      have hfi := hfl i hi2
      have es : fstF f (i + 1) = (if (fstF f i).2 ≤ f i then fstF f i else (i, f i)) := rfl
      have h4 : (fstF f i).2 ≤ 100000 := by
        rcases Nat.eq_zero_or_pos i with g | g
        · subst g; exact Nat.le_refl _
        · have := (fstF_lt' (f := f) (m := i) (fun q hq => hfl q (by omega)) g).2; omega
      refine pk_le (fstF f i).2 (f i) (fun c1 => pk_le (fstF f i).2 (f i) (fun _ => ih (_, _) _ hi2 ⟨s3, h3, ?_⟩) (fun c2 => by omega)) (fun c1 => pk_le (fstF f i).2 (f i) (fun c2 => by omega) (fun _ => ih (nI i, nI (f i)) _ hi2 ⟨s3, h3, ?_⟩))
      · (rw [es, if_pos c1]; try rfl)
      · (rw [es, if_neg (by omega)]; try rfl)
  · have h0 : n = 0 := (nI_eq (a := n) (b := 0) (by omega) (by omega)).mp e
    rw [if_pos h0] at hk
    exact e8A (i := 2) (by omega) (by omega) (by decide) St.rf hk
theorem z3_first {a c : Int32} (hI : Inv2 i M) : wp_X7_first a c M (fun r1 M1 => wp_X8_first a c M1 (fun r2 M2 => r1 = r2 ∧ Inv2 (i + 1) M2)) := by
  obtain ⟨n, b, t, V, h, hS⟩ := hI.2.1
  exact z_of (A := fstA (tvN 2 M) (tvN 7 M) h n V a c) (W7 := wp_X7_first a c) (W8 := wp_X8_first a c) hI (fun K hk => C_first hS hk) (fun M1 h1 K hk => G_first (hS.gh (h1 80 rfl)) hk)
end AL
