/-! the model thinks ahead, with numbers -/
abbrev SMy (b : Nat) : Bool := b == 80 || b == 82 || b == 85 || b == 86
def GT (n : Nat) (h : Nat → Int32) (V : Nat → Nat) (M0 M : Mem) : Prop := St SMy M0 M ∧ (∀ k, k < 244 → M 82 k = M0 80 k) ∧ (∀ k, VOL k = false → M 80 k = M0 80 k) ∧ RR n h V (M 80)
section GU
variable {n : Nat} {h : Nat → Int32} {V : Nat → Nat} {M0 M X : Mem}
theorem u_go {K : Mem → Prop} (hs : St SMz M0 M) (hR : RR n h V (M0 80)) (hk : ∀ M1, GT n h V M0 M1 → K M1) : wp_X8_moveAll 80 82 M K :=
  m_move rfl rfl (by decide) (fun M1 h1 h2 h3 => by
    have e80 : M1 80 = M0 80 := (h1 80 rfl).trans (hs 80 rfl)
    exact hk _ ⟨(hs.w (by simp <;> omega)).tr (h1.w (by simp <;> omega)), fun k hk => by rw [h2 k hk, hs 80 rfl], fun k _ => by rw [e80], by rw [e80]; exact hR⟩)
theorem u_back {K : Mem → Prop} (hG : GT n h V M0 M) (hk : ∀ M1, St SMz M0 M1 → K M1) : wp_X8_moveAll 82 80 M K :=
  m_move rfl rfl (by decide) (fun M1 h1 h2 h3 => hk _ (fun b hb => by
    by_cases e : b = 80
    · subst e
      funext k
      rcases Nat.lt_or_ge k 244 with g | g
      · rw [h2 k g, hG.2.1 k g]
      · rw [h3 k g, hG.2.2.1 k (by simp [VOL]; omega)]
    · rw [h1 b (by simp [e]), hG.1 b (by simp at hb ⊢; omega)]))
/-- back, and the kept row stays for another thought -/
theorem u_back2 {V' : Nat → Nat} {K : Mem → Prop} (hG : GT n h V M0 M) (hR : RR n h V' (M0 80)) (hk : ∀ M1, St SMz M0 M1 → GT n h V' M0 M1 → K M1) : wp_X8_moveAll 82 80 M K :=
  m_move rfl rfl (by decide) (fun M1 h1 h2 h3 => by
    have hs : St SMz M0 M1 := fun b hb => by
      by_cases e : b = 80
      · subst e
        funext k
        rcases Nat.lt_or_ge k 244 with g | g
        · rw [h2 k g, hG.2.1 k g]
        · rw [h3 k g, hG.2.2.1 k (by simp [VOL]; omega)]
      · rw [h1 b (by simp [e]), hG.1 b (by simp at hb ⊢; omega)]
    exact hk _ hs ⟨hs.w (by simp <;> omega), fun k hk => by rw [h1 82 rfl]; exact hG.2.1 k hk, fun k _ => by rw [hs 80 rfl], by rw [hs 80 rfl]; exact hR⟩)
theorem GT.smv {V' : Nat → Nat} {M1 : Mem} (hG : GT n h V M0 M) (hs : SMV M M1) (hR : RR n h V' (M1 80)) : GT n h V' M0 M1 :=
  ⟨hG.1.tr (hs.1.w (by simp <;> omega)), fun k hk => by rw [hs.1 82 rfl]; exact hG.2.1 k hk, fun k hk => (hs.2 k hk).trans (hG.2.2.1 k hk), hR⟩
theorem GT.tq {t w : Nat} (hG : GT n h V M0 M) (hw : w < 2) (hT : TQ t w (M0 80) X) : TQ t w (M 80) X := by
  refine hT.keep rfl rfl rfl rfl (hG.2.2.1 _ ?_) (fun j hj => hG.2.2.1 _ ?_)
  · rcases (by omega : w = 0 ∨ w = 1) with rfl | rfl <;> rfl
  · simp [VOL]; omega
theorem u_day {w : Int32} {K : Mem → Prop} (hw : ¬ w = 0) (hG : GT n h V M0 M) (hV : RV n V) (hH : HH n h) (hT2 : TQ 2 0 (M0 80) X) (hT7 : TQ 7 1 (M0 80) X) (hk : ∀ M1, GT n h (dayN (tvN 2 X) (tvN 7 X) true h n V) M0 M1 → K M1) : wp_X8_oneDay w M K :=
  g_day hw hG.2.2.2 hV hH (hG.tq (by omega) hT2) (hG.tq (by omega) hT7) (fun M1 s1 r1 => hk _ (hG.smv s1 r1))
theorem u_day0 {K : Mem → Prop} (hG : GT n h V M0 M) (hV : RV n V) (hH : HH n h) (hT7 : TQ 7 1 (M0 80) X) (hk : ∀ M1, GT n h (restN (tvN 7 X) true h n V) M0 M1 → K M1) : wp_X8_oneDay 0 M K :=
  g_day0 hG.2.2.2 hV hH (hG.tq (by omega) hT7) (fun M1 s1 r1 => hk _ (hG.smv s1 r1))
theorem u_passes {N : Nat} {K : Mem → Prop} (hN : N ≤ 60) (hG : GT n h V M0 M) (hV : RV n V) (h0 : V 0 ≤ 10100) (hH : HH n h) (hT2 : TQ 2 0 (M0 80) X) (hT7 : TQ 7 1 (M0 80) X) (hk : ∀ M1, GT n h (passN (tvN 2 X) (tvN 7 X) true h n N V) M0 M1 → K M1) : wp_X8_passes (nI N) M K :=
  g_passes (by omega) hG.2.2.2 hV (by omega) hH (hG.tq (by omega) hT2) (hG.tq (by omega) hT7) (fun M1 s1 r1 => hk _ (hG.smv s1 r1))
theorem GT.put {k x : Nat} (hG : GT n h V M0 M) (hv : VOL k = true) (h2 : k ≠ 2) (h4 : ∀ q : Nat, q < n → k ≠ 15 + 7 * q) : GT n h (adf V k x) M0 (up M 80 k (nI x)) :=
  hG.smv (SMV.rf.put hv) (hG.2.2.2.put h2 h4)
end GU
theorem rv_gr {n s x : Nat} {V : Nat → Nat} (hV : RV n V) (hs : s = 7 ∨ s = 8) (hx : x ≤ 9) : RV n (adf V s x) := by
  obtain ⟨v1, v2, v3, v4, v5, v6, v7⟩ := hV
  have key : ∀ j' m, V j' ≤ m → (s = j' → x ≤ m) → adf V s x j' ≤ m := fun j' m a c => by
    by_cases e : j' = s
    · rw [e, adf_s]; exact c e.symm
    · rw [adf_o e]; exact a
  refine ⟨v1, by rw [adf_o (by omega)]; exact v2, key 7 9 v3 (fun _ => hx), key 8 9 v4 (fun _ => hx), by rw [adf_o (by omega)]; exact v5, by rw [adf_o (by omega)]; exact v6, fun q hq => ?_⟩
  rw [adf_o (by omega), adf_o (by omega), adf_o (by omega), adf_o (by omega), adf_o (by omega), adf_o (by omega)]
  exact v7 q hq
/-- what z's draw says of the step -/
def zst (x : Int32) : Nat := x.toBitVec.toNat / 256 % 10
theorem dr8 (x : Int32) : (x.toUInt32 >>> ((8 : Int32).toUInt32 &&& Int32.toUInt32 31)).toInt32 = nI (x.toBitVec.toNat / 256) := by
  have hl := x.toBitVec.isLt
  apply Int32.toBitVec_inj.mp
  apply BitVec.eq_of_toNat_eq
  rw [pk_ushr x 8 8 (by decide), pk_tn (by omega)]
theorem dr10 (x : Int32) : (x.toUInt32 >>> ((8 : Int32).toUInt32 &&& Int32.toUInt32 31)).toInt32 - (x.toUInt32 >>> ((8 : Int32).toUInt32 &&& Int32.toUInt32 31)).toInt32 / 10 * 10 = nI (zst x) := by
  have hl := x.toBitVec.isLt
  rw [dr8, show (10 : Int32) = nI 10 from rfl, pk_rem (by omega) (by omega) (by omega)]
  rfl
theorem zst_le (x : Int32) : zst x ≤ 9 := by unfold zst; omega
/-- days by draws -/
def looV (lg lh : Nat → Nat → Nat → Nat) (h : Nat → Int32) (n : Nat) (z : Int32) : Nat → (Nat → Nat) → Nat → Nat
  | 0, V => V
  | k + 1, V => dayN lg lh true h n (adf (looV lg lh h n z k V) 8 (zst (zdraw (k + 1) z)))
theorem rv_loo {lg lh : Nat → Nat → Nat → Nat} {h : Nat → Int32} {n : Nat} {z : Int32} {V : Nat → Nat} (hV : RV n V) : ∀ k, V 0 + k < 2 ^ 19 → RV n (looV lg lh h n z k V) ∧ looV lg lh h n z k V 0 = V 0 + k := by
  intro k
  induction k with
  | zero => intro _; exact ⟨hV, rfl⟩
  | succ k ih =>
    intro hk
    obtain ⟨i1, i2⟩ := ih (by omega)
    refine ⟨rv_day (rv_gr i1 (Or.inr rfl) (zst_le _)) (by rw [adf_o (by omega)]; omega), ?_⟩
    show dayN lg lh true h n (adf (looV lg lh h n z k V) 8 (zst (zdraw (k + 1) z))) 0 = _
    rw [day_0, adf_o (by omega)]; omega
theorem x_loose {n : Nat} {V : Nat → Nat} {h : Nat → Int32} {M : Mem} {K : Int32 → Mem → Prop} {a : Int32} (hS : SC n V h M) (h9 : V 0 ≤ 9999) (hg : ∀ N : Nat, 1 ≤ N → N ≤ 40 → a = nI N → V 0 + N ≤ 9999 → ∀ M1, St (fun b => SD 12 b || b == 1) M M1 → (∀ k, k ≠ 7 → M1 1 k = M 1 k) → M1 1 7 = zdraw N (M 1 7) → RG 12 n h (looV (tvN 2 M) (tvN 7 M) h n (M 1 7) N V) M1 → M1 12 7 = nI (looV (tvN 2 M) (tvN 7 M) h n (M 1 7) N V 9) → K (nI (pcN (endM (looV (tvN 2 M) (tvN 7 M) h n (M 1 7) N V) n))) M1)
    (h1 : ¬ (1 ≤ a.toInt ∧ a.toInt ≤ 40) → ∀ M1, PC 1 M M1 → K (erA 1).1 M1) (h3 : ∀ N : Nat, 1 ≤ N → N ≤ 40 → a = nI N → 9999 < V 0 + N → ∀ M1, PC 3 M M1 → K (erA 3).1 M1) : wp_X7_loose a M K := by
  have hn := hS.rv.1
  unfold wp_X7_loose
  refine w7n 1 40 (by decide) (by decide) (fun g1 g2 => ?_) (fun g => e7A (i := 1) (by omega) (by omega) (by decide) St.rf (h1 g))
  obtain ⟨N, hN, rfl⟩ := nat_of (x := a) 40 (by omega) g2 (by decide)
  rw [nI_toInt (by omega)] at g1
  have e6 : M 12 6 = nI (V 0) := hS.1.2.2.2.1
  rw [e6, nI_add]
  refine pk_le (V 0 + N) 9999 (fun q => ?_) (fun q => e7A (i := 3) (by omega) (by omega) (by decide) St.rf (h3 N (by omega) hN rfl q))
  refine loopN (L := fun k i M' => wp_X7_loose_L44 K (nI N) k i M') N (fun i M' => St (fun b => SD 12 b || b == 1) M M' ∧ (∀ k, k ≠ 7 → M' 1 k = M 1 k) ∧ M' 1 7 = zdraw i (M 1 7) ∧ RG 12 n h (looV (tvN 2 M) (tvN 7 M) h n (M 1 7) i V) M' ∧ M' 12 7 = nI (looV (tvN 2 M) (tvN 7 M) h n (M 1 7) i V 9)) ?_ 0 (Nat.zero_le _) ⟨St.rf, fun _ _ => rfl, rfl, hS.1, hS.2.1⟩
  intro i M' k hi hs ih
  obtain ⟨hs, hm1, hz, hr, h7⟩ := hs
  show wp_X7_loose_l44 K (nI N) (wp_X7_loose_L44 K (nI N) k) (nI i) M'
  unfold wp_X7_loose_l44
  have hv := (rv_loo (lg := tvN 2 M) (lh := tvN 7 M) (h := h) (z := M 1 7) hS.rv i (by omega)).1
  refine ⟨fun g => ?_, fun g => ?_⟩
  · have : i = N := by have := le_of_nI g (by omega) (by omega); omega
    subst this
    exact k_endedMany GF12 hr hv (hg i (by omega) hN rfl q M' hs hm1 hz hr h7)
  · rw [nI_1]
    unfold wp_X6_draw
    dsimp only
    rw [up_same, hz, dr10]
    have hz2 : zdraw (i + 1) (M 1 7) = zdraw i (M 1 7) * 1103515245 + 12345 := rfl
    rw [← hz2]
    have hle := zst_le (zdraw (i + 1) (M 1 7))
    have hr2 : RG 12 n h (adf (looV (tvN 2 M) (tvN 7 M) h n (M 1 7) i V) 8 (zst (zdraw (i + 1) (M 1 7)))) (up (up M' 1 7 (zdraw (i + 1) (M 1 7))) 12 5 (nI (zst (zdraw (i + 1) (M 1 7))))) :=
      RG.gr (hr.same hn (fun c c1 c2 => up_o _ (by omega))) hn (Or.inr ⟨rfl, rfl⟩)
    refine hS.day ((hs.up rfl).up rfl) hr2 (by rw [up_slot _ (by omega), up_cell (by omega), adf_o (by omega)]; exact h7) (rv_gr hv (Or.inr rfl) hle) (fun M2 s2 f1 r2 f7 => ih _ (lt_of_nI g (by omega) (by omega)) ⟨s2, fun k hk => ?_, ?_, r2, f7⟩)
    · rw [f1, up_cell (by omega), up_slot _ hk]; exact hm1 k hk
    · rw [f1, up_cell (by omega), up_same]
theorem y_loose {n : Nat} {V : Nat → Nat} {h : Nat → Int32} {M X : Mem} {K : Int32 → Mem → Prop} {a : Int32} (hR : RR n h V (M 80)) (hV : RV n V) (hH : HH n h) (hT2 : TQ 2 0 (M 80) X) (hT7 : TQ 7 1 (M 80) X) (h9 : V 0 ≤ 9999) (hg : ∀ N : Nat, 1 ≤ N → N ≤ 40 → a = nI N → V 0 + N ≤ 9999 → ∀ M1, (∀ c, c ≠ 80 → c ≠ 85 → c ≠ 86 → M1 c = M c) → (∀ k, (k = 3 ∨ k = 4 ∨ k = 5 ∨ k = 6 ∨ 74 ≤ k) → M1 80 k = M 80 k) → M1 80 1 = zdraw N (M 80 1) → RR n h (looV (tvN 2 X) (tvN 7 X) h n (M 80 1) N V) (M1 80) → K (nI (pcN (endM (looV (tvN 2 X) (tvN 7 X) h n (M 80 1) N V) n))) M1)
    (h1 : ¬ (1 ≤ a.toInt ∧ a.toInt ≤ 40) → ∀ M1, PM 1 M M1 → K (erA 1).1 M1) (h3 : ∀ N : Nat, 1 ≤ N → N ≤ 40 → a = nI N → 9999 < V 0 + N → ∀ M1, PM 3 M M1 → K (erA 3).1 M1) : wp_X8_loose a M K := by
  have hn := hV.1
  unfold wp_X8_loose
  refine w8n 1 40 (by decide) (by decide) (fun g1 g2 => ?_) (fun g => e8A (i := 1) (by omega) (by omega) (by decide) St.rf (h1 g))
  obtain ⟨N, hN, rfl⟩ := nat_of (x := a) 40 (by omega) g2 (by decide)
  rw [nI_toInt (by omega)] at g1
  have e6 : M 80 0 = nI (V 0) := hR.2.2 0 (Or.inl rfl)
  rw [e6, nI_add]
  refine pk_le (V 0 + N) 9999 (fun q => ?_) (fun q => e8A (i := 3) (by omega) (by omega) (by decide) St.rf (h3 N (by omega) hN rfl q))
  refine loopN (L := fun k i M' => wp_X8_loose_L40 K (nI N) k i M') N (fun i M' => (∀ c, c ≠ 80 → c ≠ 85 → c ≠ 86 → M' c = M c) ∧ (∀ k, (k = 3 ∨ k = 4 ∨ k = 5 ∨ k = 6 ∨ 74 ≤ k) → M' 80 k = M 80 k) ∧ M' 80 1 = zdraw i (M 80 1) ∧ RR n h (looV (tvN 2 X) (tvN 7 X) h n (M 80 1) i V) (M' 80)) ?_ 0 (Nat.zero_le _) ⟨fun _ _ _ _ => rfl, fun _ _ => rfl, rfl, hR⟩
  intro i M' k hi hs ih
  obtain ⟨hs, hl, hz, hr⟩ := hs
  show wp_X8_loose_l40 K (nI N) (wp_X8_loose_L40 K (nI N) k) (nI i) M'
  unfold wp_X8_loose_l40
  have hv := (rv_loo (lg := tvN 2 X) (lh := tvN 7 X) (h := h) (z := M 80 1) hV i (by omega)).1
  refine ⟨fun g => ?_, fun g => ?_⟩
  · have : i = N := by have := le_of_nI g (by omega) (by omega); omega
    subst this
    have hl2 := endM_lt (V := looV (tvN 2 X) (tvN 7 X) h n (M 80 1) i V) n
    have hp := pow_9 hn
    exact g_overSet hr hv (g_bits (by omega) (hg i (by omega) hN rfl q M' hs hl hz hr))
  · rw [nI_1]
    unfold wp_X8_drawn
    dsimp only
    rw [up_same, hz, dr10]
    have hz2 : zdraw (i + 1) (M 80 1) = zdraw i (M 80 1) * 1103515245 + 12345 := rfl
    rw [← hz2]
    have hle := zst_le (zdraw (i + 1) (M 80 1))
    refine ⟨by decide, ?_⟩
    have hr1 : RR n h (looV (tvN 2 X) (tvN 7 X) h n (M 80 1) i V) (up M' 80 1 (zdraw (i + 1) (M 80 1)) 80) := hr.same hn (fun k k0 k1 k2 k3 k4 k5 => up_slot _ k1)
    have hr2 := hr1.put (j := 8) (x := zst (zdraw (i + 1) (M 80 1))) (by omega) (fun r hr => by omega)
    have e5 : ∀ k, (k = 3 ∨ k = 4 ∨ k = 5 ∨ k = 6 ∨ 74 ≤ k) → (up (up M' 80 1 (zdraw (i + 1) (M 80 1))) 80 8 (nI (zst (zdraw (i + 1) (M 80 1))))) 80 k = M 80 k := fun k hk => by
      rw [up_slot _ (by omega), up_slot _ (by omega)]; exact hl k hk
    refine g_day (by decide) hr2 (rv_gr hv (Or.inr rfl) hle) hH (hT2.keep rfl rfl rfl rfl (e5 _ (by omega)) (fun j _ => e5 _ (by omega))) (hT7.keep rfl rfl rfl rfl (e5 _ (by omega)) (fun j _ => e5 _ (by omega))) (fun M2 s2 r2 => ?_)
    obtain ⟨o1, o2⟩ := s2.o
    refine ih _ (lt_of_nI g (by omega) (by omega)) ⟨fun c c1 c2 c3 => by rw [o1 c c1 c2 c3, up_o _ c1, up_o _ c1]; exact hs c c1 c2 c3, fun k hk => by rw [o2 k (by omega)]; exact e5 k hk, ?_, r2⟩
    rw [o2 1 (by omega), up_slot _ (by omega), up_same]
section ZJ
variable {i : Nat} {M : Mem}
theorem z2_loose {a : Int32} (hI : Inv2 i M) : wp_X7_loose a M (fun r1 M1 => wp_X8_loose a M1 (fun r2 M2 => r1 = r2 ∧ Inv2 (i + 1) M2)) := by
  obtain ⟨n, b, t, V, h, hS⟩ := hI.2.1
  have hn := hS.rv.1
  have hz := hS.bt.2.2.1
  have inj : ∀ {N N' : Nat}, N ≤ 60 → N' ≤ 60 → a = nI N → a = nI N' → N' = N := fun h1 h2 e1 e2 => (nI_eq (by omega) (by omega)).mp (e2.symm.trans e1)
  have no : ∀ {N : Nat}, 1 ≤ N → N ≤ 40 → a = nI N → ¬ ¬ (1 ≤ a.toInt ∧ a.toInt ≤ 40) := fun h1 h2 e g => g (by rw [e, nI_toInt (by omega)]; omega)
  refine x_loose hS.sc hS.v0 (fun N n1 n60 eN hle M1 s1 f1 fz r1 g7 => ?_) (fun g M1 p1 => ?_) (fun N n1 n60 eN hlt M1 p1 => ?_)
  · have em : ∀ c, c ≠ 6 → c ≠ 11 → c ≠ 1 → (c < 12 ∨ 22 < c) → M1 c = M c := fun c c1 c2 c3 c4 => s1 c (by simp; omega)
    have e80 : M1 80 = M 80 := em 80 (by omega) (by omega) (by omega) (by omega)
    refine y_loose (n := n) (h := h) (V := V) (X := M) (by rw [e80]; exact hS.2.2.1) hS.rv hS.hh (by rw [e80]; exact hS.t0) (by rw [e80]; exact hS.t1) hS.v0 (fun N' n1' n60' eN' _ M2 o1 o2 oz r2 => ?_) (fun g => absurd g (no n1 n60 eN)) (fun N' n1' n60' eN' hlt' => ?_)
    · have := inj (by omega) (by omega) eN eN'; subst this
      rw [e80, ← hz] at r2 oz ⊢
      have es : ∀ c, c ≠ 6 → c ≠ 11 → c ≠ 1 → (c < 12 ∨ 22 < c) → c ≠ 80 → c ≠ 85 → c ≠ 86 → M2 c = M c := fun c c1 c2 c0 c3 c4 c5 c6 => by rw [o1 c c4 c5 c6, em c c1 c2 c0 c3]
      obtain ⟨hv, hv0⟩ := rv_loo (lg := tvN 2 M) (lh := tvN 7 M) (h := h) (z := M 1 7) hS.rv N' (by have := hS.v0; omega)
      refine ⟨rfl, hI.rest (fun c hc => es c (by simp at hc; omega) (by simp at hc; omega) (by simp at hc; omega) (by simp at hc; omega) (by simp at hc; omega) (by simp at hc; omega) (by simp at hc; omega)) (by rw [es 79 (by omega) (by omega) (by omega) (by omega) (by omega) (by omega) (by omega)]) (by rw [es 79 (by omega) (by omega) (by omega) (by omega) (by omega) (by omega) (by omega)]) (by rw [es 79 (by omega) (by omega) (by omega) (by omega) (by omega) (by omega) (by omega)]) (hS.num (fun c c1 c2 c3 c4 c5 => es c c4 c5 (by omega) c3 (by omega) (by omega) (by omega)) (fun k hk => by rw [o1 1 (by omega) (by omega) (by omega)]; exact f1 k hk) (fun k hk => by rw [o2 k (by omega), e80]) (by rw [o1 1 (by omega) (by omega) (by omega), fz, oz]) (r1.same hn (fun c c1 c2 => o1 c (by omega) (by omega) (by omega))) (by rw [o1 12 (by omega) (by omega) (by omega)]; exact g7) r2 hv (by rw [hv0]; exact hle) hS.hh)⟩
    · have := inj (by omega) (by omega) eN eN'; omega
  · have e80 : M1 80 = M 80 := p1.1 80 rfl
    exact y_loose (n := n) (h := h) (V := V) (X := M) (by rw [e80]; exact hS.2.2.1) hS.rv hS.hh (by rw [e80]; exact hS.t0) (by rw [e80]; exact hS.t1) hS.v0 (fun N' n1' n60' eN' => absurd g (no n1' n60' eN')) (fun _ M2 p2 => ⟨rfl, hI.th p1.1 p2.1⟩) (fun N' n1' n60' eN' => absurd g (no n1' n60' eN'))
  · have e80 : M1 80 = M 80 := p1.1 80 rfl
    exact y_loose (n := n) (h := h) (V := V) (X := M) (by rw [e80]; exact hS.2.2.1) hS.rv hS.hh (by rw [e80]; exact hS.t0) (by rw [e80]; exact hS.t1) hS.v0 (fun N' n1' n60' eN' hle => by have := inj (by omega) (by omega) eN eN'; omega) (fun g => absurd g (no n1 n60 eN)) (fun N' n1' n60' eN' _ M2 p2 => ⟨rfl, hI.th p1.1 p2.1⟩)
end ZJ
