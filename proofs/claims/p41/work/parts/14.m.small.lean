section AM
variable {n b t i : Nat} {h : Nat → Int32} {V : Nat → Nat} {M X : Mem} {K : Int32 → Mem → Prop}
/-! free -/
def freeM (h : Nat → Int32) (V : Nat → Nat) : Nat → Nat
  | 0 => 0
  | m + 1 => if V (16 + 7 * m) = 0 ∧ freeN h m V = true then freeM h V m + 2 ^ m else freeM h V m
theorem freeM_s {m : Nat} : freeM h V (m + 1) = if V (16 + 7 * m) = 0 ∧ freeN h m V = true then freeM h V m + 2 ^ m else freeM h V m := rfl
theorem freeM_lt : ∀ m, freeM h V m < 2 ^ m := by
  intro m
  induction m with
  | zero => exact Nat.one_pos
  | succ m ih =>
    rw [freeM_s]
    have := Nat.pow_succ 2 m
    split <;> omega
theorem C_free (hS : SA 1 80 n b t V h M) (hk : ∀ M1, PC 0 M M1 → K (nI (freeM h V n)) M1) : wp_X7_free M K := by
  have hn := hS.rv.1
  have hG : RG 12 n h V M := hS.1
  unfold wp_X7_free wp_X0_setFree
  refine loopNA (L := fun k a i M' => wp_X0_setFree_L4 (fun r1 M1 => K r1 M1) 12 k a i M') n (fun i a M' => M' = M ∧ a = nI (freeM h V i)) ?_ 0 (Nat.zero_le _) ⟨rfl, rfl⟩
  intro i a M' k hi e ih
  obtain ⟨rfl, rfl⟩ := e
  show wp_X0_setFree_l4 _ 12 (wp_X0_setFree_L4 _ 12 k) (nI (freeM h V i)) (nI i) M'
  unfold wp_X0_setFree_l4
  rw [hG.1]
  refine ⟨fun q => ?_, fun q => ?_⟩
  · have : i = n := by have := le_of_nI q (by omega) (by omega); omega
    subst this; exact hk _ (PC.of St.rf)
  · have hi2 : i < n := lt_of_nI q (by omega) (by omega)
    have w5 := (hS.rv.2.2.2.2.2.2 i hi2).2.2.2.2.1
    have hl := freeM_lt (h := h) (V := V) i
    rw [nI_1, GF12.one (by omega), (hG.2.2.2.2.2 i hi2).2.2.2.2.2.1, shl_n10 (by omega), or_bit hl (by omega), or_0]
    have no : ¬ (V (16 + 7 * i) = 0 ∧ freeN h i V = true) → wp_X0_setFree_L4 (fun r1 M1 => K r1 M1) 12 k (nI (freeM h V i)) (nI (i + 1)) M' := fun g => ih _ _ hi2 ⟨rfl, by rw [freeM_s, if_neg g]⟩
    refine ⟨GF12.vp (by omega), fun e => no (fun c => e (by rw [c.1]; rfl)), fun e => ⟨GF12.vp (by omega), ?_⟩⟩
    have h0 : V (16 + 7 * i) = 0 := (nI_eq (b := 0) (by omega) (by omega)).mp e
    exact e_free GF12 hG hS.rv hS.hh hi2 (fun f => b1a (ih _ _ hi2 ⟨rfl, by rw [freeM_s, if_pos ⟨h0, f⟩]⟩)) (fun f => b0a (no (fun c => f c.2)))
theorem G_free (hG : GH n h V X M) (hk : ∀ M1, PM 0 M M1 → K (nI (freeM h V n)) M1) : wp_X8_free M K := by
  obtain ⟨hR, hV, hH, hT2, hT7, h9⟩ := hG
  have hn := hV.1
  unfold wp_X8_free
  refine loopNA (L := fun k a i M' => wp_X8_free_L4 K k a i M') n (fun i a M' => M' = M ∧ a = nI (freeM h V i)) ?_ 0 (Nat.zero_le _) ⟨rfl, rfl⟩
  intro i a M' k hi e ih
  obtain ⟨rfl, rfl⟩ := e
  show wp_X8_free_l4 K (wp_X8_free_L4 K k) (nI (freeM h V i)) (nI i) M'
  unfold wp_X8_free_l4
  rw [hR.1]
  refine ⟨fun q => ?_, fun q => ?_⟩
  · have : i = n := by have := le_of_nI q (by omega) (by omega); omega
    subst this; exact hk _ (PM.of St.rf)
  · have hi2 : i < n := lt_of_nI q (by omega) (by omega)
    have hl := freeM_lt (h := h) (V := V) i
    rw [nI_1, shl_n10 (by omega), or_bit hl (by omega), or_0]
    have no : ¬ (V (16 + 7 * i) = 0 ∧ freeN h i V = true) → wp_X8_free_L4 K k (nI (freeM h V i)) (nI (i + 1)) M' := fun g => ih _ _ hi2 ⟨rfl, by rw [freeM_s, if_neg g]⟩
    exact g_over hR hV hi2 (fun o => b1b (no (fun c => o c.1))) (fun o => b0b (g_loose hR hV hH hi2 (fun f => b1a (ih _ _ hi2 ⟨rfl, by rw [freeM_s, if_pos ⟨o, f⟩]⟩)) (fun f => b0a (no (fun c => f c.2)))))
theorem z3_free (hI : Inv2 i M) : wp_X7_free M (fun r1 M1 => wp_X8_free M1 (fun r2 M2 => r1 = r2 ∧ Inv2 (i + 1) M2)) := by
  obtain ⟨n, b, t, V, h, hS⟩ := hI.2.1
  exact z_of (A := (nI (freeM h V n), 0)) (W7 := wp_X7_free) (W8 := wp_X8_free) hI (fun K hk => C_free hS hk) (fun M1 h1 K hk => G_free (hS.gh (h1 80 rfl)) hk)
/-! ofQuarrel -/
def ofQV (M : Mem) (h : Nat → Int32) (V : Nat → Nat) (j w : Nat) : Int32 :=
  if w = 7 then nI (gainN (V (11 + 7 * j)) (V (12 + 7 * j)) (tvN 2 M (V (14 + 7 * j)) (V (17 + 7 * j)) (V 0 % 7)) (V (17 + 7 * j)) (V 0)) else if w = 8 then nI (needN (V (11 + 7 * j)) (V (12 + 7 * j))) else if w = 9 then nI (dullN (V (11 + 7 * j))) else if w = 4 then h j else nI (V (11 + w + 7 * j))
def ofQA (M : Mem) (h : Nat → Int32) (n : Nat) (V : Nat → Nat) (q c : Int32) : Ans := if (0 ≤ q.toInt ∧ q.toInt < n) ∧ 0 ≤ c.toInt ∧ c.toInt ≤ 9 then (ofQV M h V q.toNatClampNeg c.toNatClampNeg, 0) else erA 1
theorem C_ofQuarrel {q c : Int32} (hS : SA 1 80 n b t V h M) (hk : ∀ M1, PC (ofQA M h n V q c).2 M M1 → K (ofQA M h n V q c).1 M1) : wp_X7_ofQuarrel q c M K := by
  have h9 := hS.v0
  have hn := hS.rv.1
  unfold wp_X7_ofQuarrel
  unfold ofQA at hk
  have bad : ¬ ((0 ≤ q.toInt ∧ q.toInt < n) ∧ 0 ≤ c.toInt ∧ c.toInt ≤ 9) → wp_X7_refuse (-1000000001) M K := fun g => by
    rw [if_neg g] at hk
    exact e7A (i := 1) (by omega) (by omega) (by decide) St.rf hk
  refine q7z hn hS.1.1 (fun j hj ej => ?_) (fun g => bad (fun x => g x.1))
  refine w7n 0 9 (by decide) (by decide) (fun g3 g4 => ?_) (fun g => bad (fun x => g x.2))
  rw [if_pos ⟨by rw [ej, nI_toInt (by omega)]; omega, g3, g4⟩] at hk
  obtain ⟨w, hw, rfl⟩ := nat_of 9 g3 g4 (by decide)
  subst ej
  rw [nI_clamp (by omega), nI_clamp (by omega)] at hk
  obtain ⟨p1, p2, p3, p4, p5, p6, p7⟩ := (show RG 12 n h V M from hS.1).2.2.2.2.2 j hj
  obtain ⟨w1, w2, w3, w4, w5, w6⟩ := hS.rv.2.2.2.2.2.2 j hj
  have hV := hS.rv
  rw [nI_clamp (by omega)]
  refine ⟨vp_in_nI (by omega) (by decide), ?_⟩
  have q1 : M (14 + j) 0 = nI (V (11 + 7 * j)) := p1
  have q2 : M (14 + j) 1 = nI (V (12 + 7 * j)) := p2
  have q3 : M (14 + j) 2 = nI (V (13 + 7 * j)) := p3
  have q4 : M (14 + j) 3 = nI (V (14 + 7 * j)) := p4
  have q5 : M (14 + j) 4 = h j := p5
  have q6 : M (14 + j) 6 = nI (V (16 + 7 * j)) := p6
  have q7 : M (14 + j) 5 = nI (V (17 + 7 * j)) := p7
  have h0 : K (ofQV M h V j w) M := hk M (PC.of St.rf)
  rcases (by omega : w = 0 ∨ w = 1 ∨ w = 2 ∨ w = 3 ∨ w = 4 ∨ w = 5 ∨ w = 6 ∨ w = 7 ∨ w = 8 ∨ w = 9) with rfl | rfl | rfl | rfl | rfl | rfl | rfl | rfl | rfl | rfl
  all_goals repeat (first | refine ⟨fun r => absurd r (by decide), fun _ => ?_⟩ | refine ⟨fun _ => ?_, fun r => absurd rfl r⟩)
  · rw [q1]; exact h0
  · rw [q2]; exact h0
  · rw [q3]; exact h0
  · rw [q4]; exact h0
  · rw [q5]; exact h0
  · rw [q6]
    have h0 : K (nI (V (16 + 7 * j))) M := h0
    refine ⟨fun e => ?_, fun e => ?_⟩
    · have : V (16 + 7 * j) = 0 := (nI_eq (b := 0) (by omega) (by omega)).mp e
      rw [this] at h0; exact h0
    · have : V (16 + 7 * j) = 1 := by
        rcases (by omega : V (16 + 7 * j) = 0 ∨ V (16 + 7 * j) = 1) with g | g
        · exact absurd (by rw [g]; rfl) e
        · exact g
      rw [this] at h0; exact h0
  · rw [q7]; exact h0
  · unfold wp_X0_gainsOf
    have e6 : M 12 6 = nI (V 0) := hS.1.2.2.2.1
    have v0 := hV.2.1
    rw [GF12.1, q4, q7, e6, show (7 : Int32) = nI 7 from rfl, pk_rem (by omega) (by omega) (by omega)]
    refine e_gives TF2 hS.t0.tc (fun M2 h2 => ?_)
    have s2 : ∀ c, c ≠ 6 → M2 c = M c := fun c hc => h2 c (by simp; omega)
    rw [tvN_eq.1, s2 12 (by omega), e6]
    exact x_gains (by rw [s2 _ (by omega)]; exact q1) w1 (by rw [s2 _ (by omega)]; exact q2) w2 (by rw [s2 _ (by omega)]; exact q7) w6 tvN_eq.2 (by omega) (hk _ (PC.of (h2.w (by simp <;> omega))))
  · exact x_needs q1 w1 q2 w2 h0
  · exact x_dulls q1 w1 h0
theorem G_ofQuarrel {q c : Int32} (hG : GH n h V X M) (hk : ∀ M1, PM (ofQA X h n V q c).2 M M1 → K (ofQA X h n V q c).1 M1) : wp_X8_ofQuarrel q c M K := by
  obtain ⟨hR, hV, hH, hT2, hT7, h9⟩ := hG
  have hn := hV.1
  unfold wp_X8_ofQuarrel
  unfold ofQA at hk
  have bad : ¬ ((0 ≤ q.toInt ∧ q.toInt < n) ∧ 0 ≤ c.toInt ∧ c.toInt ≤ 9) → wp_X8_errs (-1000000001) M K := fun g => by
    rw [if_neg g] at hk
    exact e8A (i := 1) (by omega) (by omega) (by decide) St.rf hk
  refine q8z hn hR.1 (fun j hj ej => ?_) (fun g => bad (fun x => g x.1))
  refine w8n 0 9 (by decide) (by decide) (fun g3 g4 => ?_) (fun g => bad (fun x => g x.2))
  rw [if_pos ⟨by rw [ej, nI_toInt (by omega)]; omega, g3, g4⟩] at hk
  obtain ⟨w, hw, rfl⟩ := nat_of 9 g3 g4 (by decide)
  subst ej
  rw [nI_clamp (by omega), nI_clamp (by omega)] at hk
  obtain ⟨w1, w2, w3, w4, w5, w6⟩ := hV.2.2.2.2.2.2 j hj
  have h0 : K (ofQV X h V j w) M := hk M (PM.of St.rf)
  rcases (by omega : w = 0 ∨ w = 1 ∨ w = 2 ∨ w = 3 ∨ w = 4 ∨ w = 5 ∨ w = 6 ∨ w = 7 ∨ w = 8 ∨ w = 9) with rfl | rfl | rfl | rfl | rfl | rfl | rfl | rfl | rfl | rfl
  all_goals repeat (first | refine ⟨fun r => absurd r (by decide), fun _ => ?_⟩ | refine ⟨fun _ => ?_, fun r => absurd rfl r⟩)
  · exact i_it 0 (11 + 7 * j) hn hR hj (by omega) h0
  · exact i_it 1 (12 + 7 * j) hn hR hj (by omega) h0
  · exact i_it 2 (13 + 7 * j) hn hR hj (by omega) h0
  · exact i_it 3 (14 + 7 * j) hn hR hj (by omega) h0
  · exact i_on hn hR hj h0
  · exact i_it 5 (16 + 7 * j) hn hR hj (by omega) h0
  · exact i_it 6 (17 + 7 * j) hn hR hj (by omega) h0
  · exact g_gains hR hV hj hT2 (fun M1 h1 => hk _ (PM.of (h1.w (by simp <;> omega))))
  · exact g_needs hR hV hj h0
  · exact g_dulls hn hR hj w1 h0
theorem z3_ofQuarrel {q c : Int32} (hI : Inv2 i M) : wp_X7_ofQuarrel q c M (fun r1 M1 => wp_X8_ofQuarrel q c M1 (fun r2 M2 => r1 = r2 ∧ Inv2 (i + 1) M2)) := by
  obtain ⟨n, b, t, V, h, hS⟩ := hI.2.1
  exact z_of (A := ofQA M h n V q c) (W7 := wp_X7_ofQuarrel q c) (W8 := wp_X8_ofQuarrel q c) hI (fun K hk => C_ofQuarrel hS hk) (fun M1 h1 K hk => G_ofQuarrel (hS.gh (h1 80 rfl)) hk)
/-! count -/
def sumE (V : Nat → Nat) : Nat → Nat
  | 0 => 0
  | m + 1 => sumE V m + V (14 + 7 * m)
theorem k_edges (hG : RG 12 n h V M) (hn : n ≤ 9) (hk : K (nI (sumE V n)) M) : wp_X0_edgesTogether 12 M K := by
  unfold wp_X0_edgesTogether
  refine loopNA (L := fun k a i M' => wp_X0_edgesTogether_L4 K 12 k a i M') n (fun i a M' => M' = M ∧ a = nI (sumE V i)) ?_ 0 (Nat.zero_le _) ⟨rfl, rfl⟩
  intro i a M' k hi e ih
  obtain ⟨rfl, rfl⟩ := e
  show wp_X0_edgesTogether_l4 K 12 (wp_X0_edgesTogether_L4 K 12 k) (nI (sumE V i)) (nI i) M'
  unfold wp_X0_edgesTogether_l4
  rw [hG.1]
  refine ⟨fun q => ?_, fun q => ?_⟩
  · have : i = n := by have := le_of_nI q (by omega) (by omega); omega
    subst this; exact hk
  · have hi2 : i < n := lt_of_nI q (by omega) (by omega)
    rw [nI_1, GF12.one (by omega), (hG.2.2.2.2.2 i hi2).2.2.2.1, nI_add]
    exact ⟨GF12.vp (by omega), ih _ _ hi2 ⟨rfl, rfl⟩⟩
theorem g_edges (hR : RR n h V (M 80)) (hn : n ≤ 9) (hk : K (nI (sumE V n)) M) : wp_X8_edgesOfAll M K := by
  unfold wp_X8_edgesOfAll
  refine loopNA (L := fun k a i M' => wp_X8_edgesOfAll_L4 K k a i M') n (fun i a M' => M' = M ∧ a = nI (sumE V i)) ?_ 0 (Nat.zero_le _) ⟨rfl, rfl⟩
  intro i a M' k hi e ih
  obtain ⟨rfl, rfl⟩ := e
  show wp_X8_edgesOfAll_l4 K (wp_X8_edgesOfAll_L4 K k) (nI (sumE V i)) (nI i) M'
  unfold wp_X8_edgesOfAll_l4
  rw [hR.1]
  refine ⟨fun q => ?_, fun q => ?_⟩
  · have : i = n := by have := le_of_nI q (by omega) (by omega); omega
    subst this; exact hk
  · have hi2 : i < n := lt_of_nI q (by omega) (by omega)
    rw [nI_1]
    refine i_it 3 (14 + 7 * i) hn hR hi2 (by omega) ?_
    rw [nI_add]
    exact ih _ _ hi2 ⟨rfl, rfl⟩
theorem z3_count {a : Int32} (hI : Inv2 i M) : wp_X7_count a M (fun r1 M1 => wp_X8_count a M1 (fun r2 M2 => r1 = r2 ∧ Inv2 (i + 1) M2)) := by
  obtain ⟨n, b, t, V, h, hS⟩ := hI.2.1
  have hn := hS.rv.1
  obtain ⟨⟨b1, b2, b3⟩, ⟨t1, t2, t3⟩, hz, hT, hW⟩ := hS.bt
  have hG : RG 12 n h V M := hS.1
  have h7 : M 12 7 = nI (V 9) := hS.2.1
  have hR := hS.2.2.1
  obtain ⟨z, hz40, e1, e2, -⟩ := hI.2.2.2.1
  have fin : Inv2 (i + 1) M := hI.th St.rf St.rf
  unfold wp_X7_count
  have go : ∀ {r : Int32}, wp_X8_count a M (fun r2 M2 => r = r2 ∧ Inv2 (i + 1) M2) → wp_X8_count a M (fun r2 M2 => r = r2 ∧ Inv2 (i + 1) M2) := fun x => x
  refine ⟨fun a0 => ?_, fun a0 => ⟨fun a1 => ?_, fun a1 => ⟨fun a2 => ?_, fun a2 => ⟨fun a3 => ?_, fun a3 => ⟨fun a4 => ?_, fun a4 => ⟨fun a5 => ?_, fun a5 => ⟨fun a6 => ?_, fun a6 => ⟨fun a7 => ?_, fun a7 => ⟨fun a8 => ?_, fun a8 => ⟨fun a9 => ?_, fun a9 => ⟨fun a10 => ?_, fun a10 => ⟨fun a11 => ?_, fun a11 => ?_⟩⟩⟩⟩⟩⟩⟩⟩⟩⟩⟩⟩
  · subst a0; unfold wp_X8_count
    exact ⟨fun _ => ⟨by rw [hG.1, hR.1], fin⟩, fun e => absurd rfl e⟩
  · subst a1; unfold wp_X8_count
    exact ⟨fun e => absurd e a0, fun _ => ⟨fun _ => ⟨by rw [hG.2.2.2.1, hR.2.2 0 (Or.inl rfl)], fin⟩, fun e => absurd rfl e⟩⟩
  · subst a2; unfold wp_X8_count
    exact ⟨fun e => absurd e a0, fun _ => ⟨fun e => absurd e a1, fun _ => ⟨fun _ => ⟨by rw [hG.2.1, hR.2.2 7 (Or.inr (Or.inl (by omega)))], fin⟩, fun e => absurd rfl e⟩⟩⟩
  · subst a3; unfold wp_X8_count
    exact ⟨fun e => absurd e a0, fun _ => ⟨fun e => absurd e a1, fun _ => ⟨fun e => absurd e a2, fun _ => ⟨fun _ => ⟨by rw [hG.2.2.1, hR.2.2 8 (Or.inr (Or.inl (by omega)))], fin⟩, fun e => absurd rfl e⟩⟩⟩⟩
  · subst a4; unfold wp_X8_count
    exact ⟨fun e => absurd e a0, fun _ => ⟨fun e => absurd e a1, fun _ => ⟨fun e => absurd e a2, fun _ => ⟨fun e => absurd e a3, fun _ => ⟨fun _ => ⟨by rw [h7, hR.2.2 9 (Or.inr (Or.inl (by omega)))], fin⟩, fun e => absurd rfl e⟩⟩⟩⟩⟩
  · subst a5; unfold wp_X8_count
    exact ⟨fun e => absurd e a0, fun _ => ⟨fun e => absurd e a1, fun _ => ⟨fun e => absurd e a2, fun _ => ⟨fun e => absurd e a3, fun _ => ⟨fun e => absurd e a4, fun _ => ⟨fun _ => ⟨by rw [hG.2.2.2.2.1, hR.2.2 10 (Or.inr (Or.inl (by omega)))], fin⟩, fun e => absurd rfl e⟩⟩⟩⟩⟩⟩
  · subst a6
    refine k_setEnded GF12 hG hS.rv ?_
    unfold wp_X8_count
    exact ⟨fun e => absurd e a0, fun _ => ⟨fun e => absurd e a1, fun _ => ⟨fun e => absurd e a2, fun _ => ⟨fun e => absurd e a3, fun _ => ⟨fun e => absurd e a4, fun _ => ⟨fun e => absurd e a5, fun _ => ⟨fun _ => g_overSet hR hS.rv ⟨rfl, fin⟩, fun e => absurd rfl e⟩⟩⟩⟩⟩⟩⟩
  · subst a7
    refine k_edges hG hn ?_
    unfold wp_X8_count
    exact ⟨fun e => absurd e a0, fun _ => ⟨fun e => absurd e a1, fun _ => ⟨fun e => absurd e a2, fun _ => ⟨fun e => absurd e a3, fun _ => ⟨fun e => absurd e a4, fun _ => ⟨fun e => absurd e a5, fun _ => ⟨fun e => absurd e a6, fun _ => ⟨fun _ => g_edges hR hn ⟨rfl, fin⟩, fun e => absurd rfl e⟩⟩⟩⟩⟩⟩⟩⟩
  · subst a8; unfold wp_X8_count
    exact ⟨fun e => absurd e a0, fun _ => ⟨fun e => absurd e a1, fun _ => ⟨fun e => absurd e a2, fun _ => ⟨fun e => absurd e a3, fun _ => ⟨fun e => absurd e a4, fun _ => ⟨fun e => absurd e a5, fun _ => ⟨fun e => absurd e a6, fun _ => ⟨fun e => absurd e a7, fun _ => ⟨fun _ => ⟨by rw [b2, b3], fin⟩, fun e => absurd rfl e⟩⟩⟩⟩⟩⟩⟩⟩⟩
  · subst a9; unfold wp_X8_count
    exact ⟨fun e => absurd e a0, fun _ => ⟨fun e => absurd e a1, fun _ => ⟨fun e => absurd e a2, fun _ => ⟨fun e => absurd e a3, fun _ => ⟨fun e => absurd e a4, fun _ => ⟨fun e => absurd e a5, fun _ => ⟨fun e => absurd e a6, fun _ => ⟨fun e => absurd e a7, fun _ => ⟨fun e => absurd e a8, fun _ => ⟨fun _ => ⟨by rw [t2, t3], fin⟩, fun e => absurd rfl e⟩⟩⟩⟩⟩⟩⟩⟩⟩⟩
  · subst a10; unfold wp_X8_count
    exact ⟨fun e => absurd e a0, fun _ => ⟨fun e => absurd e a1, fun _ => ⟨fun e => absurd e a2, fun _ => ⟨fun e => absurd e a3, fun _ => ⟨fun e => absurd e a4, fun _ => ⟨fun e => absurd e a5, fun _ => ⟨fun e => absurd e a6, fun _ => ⟨fun e => absurd e a7, fun _ => ⟨fun e => absurd e a8, fun _ => ⟨fun e => absurd e a9, fun _ => ⟨fun _ => ⟨by rw [e1, e2], fin⟩, fun e => absurd rfl e⟩⟩⟩⟩⟩⟩⟩⟩⟩⟩⟩
  · subst a11; unfold wp_X8_count
    exact ⟨fun e => absurd e a0, fun _ => ⟨fun e => absurd e a1, fun _ => ⟨fun e => absurd e a2, fun _ => ⟨fun e => absurd e a3, fun _ => ⟨fun e => absurd e a4, fun _ => ⟨fun e => absurd e a5, fun _ => ⟨fun e => absurd e a6, fun _ => ⟨fun e => absurd e a7, fun _ => ⟨fun e => absurd e a8, fun _ => ⟨fun e => absurd e a9, fun _ => ⟨fun e => absurd e a10, fun _ => ⟨fun _ => ⟨hz, fin⟩, fun e => absurd rfl e⟩⟩⟩⟩⟩⟩⟩⟩⟩⟩⟩⟩
  · refine e7A (i := 1) (by omega) (by omega) (by decide) St.rf (fun M1 p1 => ?_)
    unfold wp_X8_count
    exact ⟨fun e => absurd e a0, fun _ => ⟨fun e => absurd e a1, fun _ => ⟨fun e => absurd e a2, fun _ => ⟨fun e => absurd e a3, fun _ => ⟨fun e => absurd e a4, fun _ => ⟨fun e => absurd e a5, fun _ => ⟨fun e => absurd e a6, fun _ => ⟨fun e => absurd e a7, fun _ => ⟨fun e => absurd e a8, fun _ => ⟨fun e => absurd e a9, fun _ => ⟨fun e => absurd e a10, fun _ => ⟨fun e => absurd e a11, fun _ => e8A (i := 1) (by omega) (by omega) (by decide) St.rf (fun M2 p2 => ⟨rfl, hI.th p1.1 p2.1⟩)⟩⟩⟩⟩⟩⟩⟩⟩⟩⟩⟩⟩
end AM
