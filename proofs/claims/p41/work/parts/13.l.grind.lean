/-- a ground g holds the numbers V (in the row's order); harm apart -/
def RG (g n : Nat) (h : Nat → Int32) (V : Nat → Nat) (M : Mem) : Prop :=
  M g 3 = nI n ∧ M g 4 = nI (V 7) ∧ M g 5 = nI (V 8) ∧ M g 6 = nI (V 0) ∧ M g 8 = nI (V 10) ∧ ∀ q : Nat, q < n → M (g + 2 + q) 0 = nI (V (11 + 7 * q)) ∧ M (g + 2 + q) 1 = nI (V (12 + 7 * q)) ∧ M (g + 2 + q) 2 = nI (V (13 + 7 * q)) ∧ M (g + 2 + q) 3 = nI (V (14 + 7 * q)) ∧ M (g + 2 + q) 4 = h q ∧ M (g + 2 + q) 6 = nI (V (16 + 7 * q)) ∧ M (g + 2 + q) 5 = nI (V (17 + 7 * q))
/-- the ranges of the numbers -/
def RV (n : Nat) (V : Nat → Nat) : Prop := n ≤ 9 ∧ V 0 < 2 ^ 19 ∧ V 7 ≤ 9 ∧ V 8 ≤ 9 ∧ V 9 ≤ 99999 ∧ V 10 ≤ 99999 ∧ ∀ q : Nat, q < n → V (11 + 7 * q) ≤ 6 ∧ V (12 + 7 * q) ≤ 9 ∧ V (13 + 7 * q) ≤ 9 ∧ V (14 + 7 * q) ≤ 99 ∧ V (16 + 7 * q) ≤ 1 ∧ V (17 + 7 * q) ≤ 999
def grind1 (lg : Nat → Nat → Nat → Nat) (q : Nat) (V : Nat → Nat) : Nat → Nat :=
  if V (13 + 7 * q) = V 7 ∧ V (16 + 7 * q) = 0 then adf (adf V (14 + 7 * q) (min 99 (V (14 + 7 * q) + gainN (V (11 + 7 * q)) (V (12 + 7 * q)) (lg (V (14 + 7 * q)) (V (17 + 7 * q)) (V 0 % 7)) (V (17 + 7 * q)) (V 0)))) 10 (min 99999 (V 10 + 3)) else V
def grindN (lg : Nat → Nat → Nat → Nat) : Nat → (Nat → Nat) → Nat → Nat
  | 0, V => V
  | n + 1, V => grind1 lg n (grindN lg n V)
theorem rv_grind1 {n q : Nat} {V : Nat → Nat} {lg : Nat → Nat → Nat → Nat} (h : RV n V) (hq : q < n) : RV n (grind1 lg q V) := by
  unfold grind1
  by_cases c : V (13 + 7 * q) = V 7 ∧ V (16 + 7 * q) = 0
  · rw [if_pos c]
    obtain ⟨h1, h2, h3, h4, h5, h6, h7⟩ := h
    generalize gainN (V (11 + 7 * q)) (V (12 + 7 * q)) (lg (V (14 + 7 * q)) (V (17 + 7 * q)) (V 0 % 7)) (V (17 + 7 * q)) (V 0) = G
    have a : ∀ j, j ≠ 10 → j ≠ 14 + 7 * q → adf (adf V (14 + 7 * q) (min 99 (V (14 + 7 * q) + G))) 10 (min 99999 (V 10 + 3)) j = V j := fun j j1 j2 => by rw [adf_o j1, adf_o j2]
    refine ⟨h1, by rw [a _ (by omega) (by omega)]; exact h2, by rw [a _ (by omega) (by omega)]; exact h3, by rw [a _ (by omega) (by omega)]; exact h4, by rw [a _ (by omega) (by omega)]; exact h5, by rw [adf_s]; omega, fun r hr => ?_⟩
    obtain ⟨g1, g2, g3, g4, g5, g6⟩ := h7 r hr
    refine ⟨by rw [a _ (by omega) (by omega)]; exact g1, by rw [a _ (by omega) (by omega)]; exact g2, by rw [a _ (by omega) (by omega)]; exact g3, ?_, by rw [a _ (by omega) (by omega)]; exact g5, by rw [a _ (by omega) (by omega)]; exact g6⟩
    by_cases e : r = q
    · subst e; rw [adf_o (by omega), adf_s]; omega
    · rw [a _ (by omega) (by omega)]; exact g4
  · rw [if_neg c]; exact h
theorem rv_grindN {n : Nat} {V : Nat → Nat} {lg : Nat → Nat → Nat → Nat} (h : RV n V) : ∀ i, i ≤ n → RV n (grindN lg i V) := by
  intro i
  induction i with
  | zero => intro _; exact h
  | succ i ih => intro hi; exact rv_grind1 (ih (by omega)) (by omega)
theorem gainN_le {kd m v age day : Nat} (hm : m ≤ 9) (hv : v ≤ 99) : gainN kd m v age day ≤ 200 := by
  unfold gainN
  repeat' split
  all_goals omega
abbrev SGR (g b : Nat) : Bool := b == 6 || b == g || (decide (g + 2 ≤ b) && decide (b ≤ g + 10))
theorem e_grind {g n : Nat} {h : Nat → Int32} {V : Nat → Nat} {M : Mem} {K : Mem → Prop} (hF : GF g) (hR : RG g n h V M) (hV : RV n V) (hT : M 2 5 = 0 ∨ ∃ z, TC 2 z M) (hk : ∀ M1, St (SGR g) M M1 → M1 g 7 = M g 7 → RG g n h (grindN (tvN 2 M) n V) M1 → K M1) : wp_X0_grindArea g M K := by
  have hn9 := hV.1
  have hg : g = 12 ∨ g = 49 := hF.2.2.2.2.2
  unfold wp_X0_grindArea
  refine loopN (L := fun k i M' => wp_X0_grindArea_L2 K g k i M') n (fun i M' => St (SGR g) M M' ∧ M' g 7 = M g 7 ∧ RG g n h (grindN (tvN 2 M) i V) M') ?_ 0 (Nat.zero_le _) ⟨St.rf, rfl, hR⟩
  intro i M' k hi hs ih
  obtain ⟨hs, h7, hr⟩ := hs
  show wp_X0_grindArea_l2 K g (wp_X0_grindArea_L2 K g k) (nI i) M'
  unfold wp_X0_grindArea_l2
  have hv := rv_grindN (lg := tvN 2 M) hV i hi
  have ih' : ∀ M1, i < n → St (SGR g) M M1 ∧ M1 g 7 = M g 7 ∧ RG g n h (grind1 (tvN 2 M) i (grindN (tvN 2 M) i V)) M1 → wp_X0_grindArea_L2 K g k (nI (i + 1)) M1 := fun M1 a b => ih M1 a b
  generalize hW : grindN (tvN 2 M) i V = W at hr hv ih'
  obtain ⟨r1, r2, r3, r4, r5, r6⟩ := hr
  rw [r1]
  refine ⟨fun q => ?_, fun q => ?_⟩
  · have : i = n := by have := le_of_nI q (by omega) (by omega); omega
    subst this
    exact hk _ hs h7 (by rw [hW]; exact ⟨r1, r2, r3, r4, r5, r6⟩)
  · have hin : i < n := lt_of_nI q (by omega) (by omega)
    obtain ⟨v1, v2, v3, v4, v5, v6, v7⟩ := hv
    obtain ⟨w1, w2, w3, w4, w5, w6⟩ := v7 i hin
    obtain ⟨o1, o2, o3, o4, o5, o6, o7⟩ := r6 i hin
    rw [hF.one (by omega), nI_1, o3, r2]
    unfold grind1 at ih'
    refine ⟨hF.vp (by omega), fun q2 => ?_, fun q2 => ⟨fun q3 => ?_, fun q3 => ?_⟩⟩
    · rw [if_neg (fun c => q2 (by rw [c.1]))] at ih'
      exact ih' M' hin ⟨hs, h7, r1, r2, r3, r4, r5, r6⟩
    · rw [o6] at q3
      rw [if_neg (fun c => q3 (by rw [c.2]; rfl))] at ih'
      exact ih' M' hin ⟨hs, h7, r1, r2, r3, r4, r5, r6⟩
    · rw [o6] at q3
      have c1 : W (13 + 7 * i) = W 7 := (nI_eq (by omega) (by omega)).mp q2
      have c2 : W (16 + 7 * i) = 0 := (nI_eq (a := W (16 + 7 * i)) (b := 0) (by omega) (by omega)).mp q3
      rw [if_pos ⟨c1, c2⟩] at ih'
      have k2 : M' 2 = M 2 := hs 2 (by rcases hg with rfl | rfl <;> rfl)
      have k3 : M' 3 = M 3 := hs 3 (by rcases hg with rfl | rfl <;> rfl)
      have k4 : M' 4 = M 4 := hs 4 (by rcases hg with rfl | rfl <;> rfl)
      have k5 : M' 5 = M 5 := hs 5 (by rcases hg with rfl | rfl <;> rfl)
      have hT' : M' 2 5 = 0 ∨ ∃ z, TC 2 z M' := by
        unfold TC
        rw [k2, show M' (2 + 1) = M (2 + 1) from k3, show M' (2 + 2) = M (2 + 2) from k4, show M' (2 + 3) = M (2 + 3) from k5]
        exact hT
      unfold wp_X0_gainsOf
      rw [hF.1, o4, o7, r4, show (7 : Int32) = nI 7 from rfl, pk_rem (by omega) (by omega) (by omega)]
      refine e_gives TF2 hT' (fun M2 hs2 => ?_)
      rw [tv_keep k2 k3 k4 k5, tvN_eq.1]
      have hv99 := (tvN_eq (t := 2) (M := M) (a := W (14 + 7 * i)) (b := W (17 + 7 * i)) (c := W 0 % 7)).2
      have hgl := gainN_le (kd := W (11 + 7 * i)) (m := W (12 + 7 * i)) (v := tvN 2 M (W (14 + 7 * i)) (W (17 + 7 * i)) (W 0 % 7)) (age := W (17 + 7 * i)) (day := W 0) w2 hv99
      have s2 : ∀ c, c ≠ 6 → M2 c = M' c := fun c hc => hs2 c (by simp; omega)
      have hg6 : g ≠ 6 := by rcases hg with rfl | rfl <;> decide
      rw [s2 g hg6, r4]
      refine x_gains (by rw [s2 _ (by omega)]; exact o1) w1 (by rw [s2 _ (by omega)]; exact o2) w2 (by rw [s2 _ (by omega)]; exact o7) w6 hv99 (by omega) ?_
      rintro _ rfl
      rw [nI_add, show (99 : Int32) = nI 99 from rfl, minN (by omega) (by omega), up_cell (show g ≠ g + 2 + i by omega), s2 g hg6, r5, show (3 : Int32) = nI 3 from rfl, nI_add, show (99999 : Int32) = nI 99999 from rfl, minN (by omega) (by omega)]
      generalize hG : gainN (W (11 + 7 * i)) (W (12 + 7 * i)) (tvN 2 M (W (14 + 7 * i)) (W (17 + 7 * i)) (W 0 % 7)) (W (17 + 7 * i)) (W 0) = G at *
      have a : ∀ j, j ≠ 10 → j ≠ 14 + 7 * i → adf (adf W (14 + 7 * i) (min 99 (W (14 + 7 * i) + G))) 10 (min 99999 (W 10 + 3)) j = W j := fun j j1 j2 => by rw [adf_o j1, adf_o j2]
      have mg : ∀ x y k, k ≠ 8 → up (up M2 (g + 2 + i) 3 x) g 8 y g k = M' g k := fun x y k hk => by rw [up_slot _ hk, up_cell (by omega), s2 g hg6]
      refine ih' _ hin ⟨?_, by rw [mg _ _ _ (by decide)]; exact h7, by rw [mg _ _ _ (by decide)]; exact r1, by rw [mg _ _ _ (by decide), a _ (by omega) (by omega)]; exact r2, by rw [mg _ _ _ (by decide), a _ (by omega) (by omega)]; exact r3, by rw [mg _ _ _ (by decide), a _ (by omega) (by omega)]; exact r4, by rw [up_same, adf_s], fun r hr => ?_⟩
      · exact ((hs.tr (hs2.w (by intro c hc; simp at hc ⊢; omega))).up (by simp; omega)).up (by simp)
      · obtain ⟨p1, p2, p3, p4, p5, p6, p7⟩ := r6 r hr
        have mo : ∀ x y k, (r = i → k ≠ 3) → up (up M2 (g + 2 + i) 3 x) g 8 y (g + 2 + r) k = M' (g + 2 + r) k := fun x y k hk => by
          rw [up_cell (by omega)]
          by_cases e : r = i
          · rw [e, up_slot _ (hk e), s2 _ (by omega)]
          · rw [up_cell (by omega), s2 _ (by omega)]
        refine ⟨by rw [mo _ _ _ (fun _ => by decide), a _ (by omega) (by omega)]; exact p1, by rw [mo _ _ _ (fun _ => by decide), a _ (by omega) (by omega)]; exact p2, by rw [mo _ _ _ (fun _ => by decide), a _ (by omega) (by omega)]; exact p3, ?_, by rw [mo _ _ _ (fun _ => by decide)]; exact p5, by rw [mo _ _ _ (fun _ => by decide), a _ (by omega) (by omega)]; exact p6, by rw [mo _ _ _ (fun _ => by decide), a _ (by omega) (by omega)]; exact p7⟩
        by_cases e : r = i
        · subst e; rw [up_cell (by omega), up_same, adf_o (by omega), adf_s]
        · rw [mo _ _ _ (fun e2 => absurd e2 e), a _ (by omega) (by omega)]; exact p4
