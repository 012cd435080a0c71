theorem RG.pe {g n x : Nat} {h : Nat → Int32} {W : Nat → Nat} {M : Mem} (hR : RG g n h W M) (hn : n ≤ 9) : RG g n h (adf W 10 x) (up M g 8 (nI x)) := by
  obtain ⟨r1, r2, r3, r4, r5, r6⟩ := hR
  refine ⟨by rw [up_slot _ (by decide)]; exact r1, by rw [up_slot _ (by decide), adf_o (by omega)]; exact r2, by rw [up_slot _ (by decide), adf_o (by omega)]; exact r3, by rw [up_slot _ (by decide), adf_o (by omega)]; exact r4, by rw [up_same, adf_s], fun r hr => ?_⟩
  have hc : ∀ j, up M g 8 (nI x) (g + 2 + r) j = M (g + 2 + r) j := fun j => up_cell (by omega)
  obtain ⟨p1, p2, p3, p4, p5, p6, p7⟩ := r6 r hr
  exact ⟨by rw [hc, adf_o (by omega)]; exact p1, by rw [hc, adf_o (by omega)]; exact p2, by rw [hc, adf_o (by omega)]; exact p3, by rw [hc, adf_o (by omega)]; exact p4, by rw [hc]; exact p5, by rw [hc, adf_o (by omega)]; exact p6, by rw [hc, adf_o (by omega)]; exact p7⟩
def VS (a v : Int32) : Prop := (0 ≤ a.toInt ∧ a.toInt ≤ 3) ∧ 0 ≤ v.toInt ∧ v.toInt ≤ (if a.toInt ≤ 1 then 9 else 99999)
/-- what set sets: the ground's field k, the number at s -/
def SF (j k s : Nat) : Prop := (j = 0 ∧ k = 4 ∧ s = 7) ∨ (j = 1 ∧ k = 5 ∧ s = 8) ∨ (j = 2 ∧ k = 7 ∧ s = 9) ∨ (j = 3 ∧ k = 8 ∧ s = 10)
section ZG
variable {i : Nat} {M : Mem}
theorem x_set {a v : Int32} {K : Int32 → Mem → Prop} (h1 : ∀ j x k s : Nat, a = nI j → v = nI x → SF j k s → (s ≤ 8 → x ≤ 9) → x ≤ 99999 → K (M 12 k) (up M 12 k v)) (h0 : ¬ VS a v → ∀ M1, PC 1 M M1 → K (erA 1).1 M1) : wp_X7_set a v M K := by
  unfold wp_X7_set
  refine w7z 0 3 (by decide) (by decide) (fun g1 g2 => ?_) (fun g => e7A (i := 1) (by omega) (by omega) (by decide) St.rf (h0 (fun c => g c.1)))
  obtain ⟨j, hj, rfl⟩ := nat_of (x := a) 3 g1 g2 (by decide)
  have ej : (nI j).toInt = (j : Int) := nI_toInt (by omega)
  have key : ∀ m : Nat, m ≤ 99999 → (j ≤ 1 → m = 9) → (2 ≤ j → m = 99999) → wp_X7_isWithin v 0 (nI m) M (fun r5 M5 => (¬ r5 = 0 → wp_X0_setGrinder 12 (nI j) v M5 (fun r7 M7 => K r7 M7)) ∧ (r5 = 0 → wp_X7_refuse (-1000000001) M5 (fun r8 M8 => K r8 M8))) := by
    intro m hm m1 m2
    refine w7n 0 m (by decide) (nI_toInt (by omega)) (fun g3 g4 => ?_) (fun g => e7A (i := 1) (by omega) (by omega) (by decide) St.rf (h0 (fun c => g ?_)))
    · obtain ⟨x, hx, rfl⟩ := nat_of (x := v) m g3 g4 (by omega)
      unfold wp_X0_setGrinder
      refine ⟨fun e => ?_, fun e0 => ⟨fun e => ?_, fun e1 => ⟨fun e => ?_, fun e2 => ?_⟩⟩⟩
      · have : j = 0 := (nI_eq (a := j) (b := 0) (by omega) (by omega)).mp e
        exact h1 j x 4 7 rfl rfl (by unfold SF; omega) (by omega) (by omega)
      · have : j = 1 := (nI_eq (a := j) (b := 1) (by omega) (by omega)).mp e
        exact h1 j x 5 8 rfl rfl (by unfold SF; omega) (by omega) (by omega)
      · have : j = 2 := (nI_eq (a := j) (b := 2) (by omega) (by omega)).mp e
        exact h1 j x 7 9 rfl rfl (by unfold SF; omega) (by omega) (by omega)
      · have n0 : j ≠ 0 := fun h => e0 (by rw [h]; rfl)
        have n1 : j ≠ 1 := fun h => e1 (by rw [h]; rfl)
        have n2 : j ≠ 2 := fun h => e2 (by rw [h]; rfl)
        exact h1 j x 8 10 rfl rfl (by unfold SF; omega) (by omega) (by omega)
    · obtain ⟨c1, c2, c3⟩ := c
      refine ⟨c2, ?_⟩
      rw [ej] at c3
      split at c3 <;> omega
  unfold wp_X7_mostOfGrinder
  refine ⟨fun e => key 9 (by omega) (fun _ => rfl) (fun h2 => ?_), fun e0 => ⟨fun e => key 9 (by omega) (fun _ => rfl) (fun h2 => ?_), fun e1 => ⟨fun e => key 99999 (by omega) (fun h2 => ?_) (fun _ => rfl), fun e2 => key 99999 (by omega) (fun h2 => ?_) (fun _ => rfl)⟩⟩⟩
  · have := (nI_eq (a := j) (b := 0) (by omega) (by omega)).mp e; omega
  · have := (nI_eq (a := j) (b := 1) (by omega) (by omega)).mp e; omega
  · have := (nI_eq (a := j) (b := 2) (by omega) (by omega)).mp e; omega
  · have n0 : j ≠ 0 := fun h => e0 (by rw [h]; rfl)
    have n1 : j ≠ 1 := fun h => e1 (by rw [h]; rfl)
    omega
theorem VS_of {a v : Int32} {j x k s : Nat} (e1 : a = nI j) (e2 : v = nI x) (e3 : SF j k s) (e4 : s ≤ 8 → x ≤ 9) (e5 : x ≤ 99999) : VS a v := by
  have hj : (nI j).toInt = (j : Int) := nI_toInt (by unfold SF at e3; omega)
  have hx : (nI x).toInt = (x : Int) := nI_toInt (by omega)
  unfold VS
  rw [e1, e2, hj, hx]
  refine ⟨by unfold SF at e3; omega, by omega, ?_⟩
  split
  · have := e4 (by unfold SF at e3; omega); omega
  · omega
theorem y_set {a v : Int32} {K : Int32 → Mem → Prop} (h1 : ∀ j x k s : Nat, a = nI j → v = nI x → SF j k s → (s ≤ 8 → x ≤ 9) → x ≤ 99999 → K (M 80 s) (up M 80 s v)) (h0 : ¬ VS a v → ∀ M1, PM 1 M M1 → K (erA 1).1 M1) : wp_X8_set a v M K := by
  unfold wp_X8_set
  have hb : ∀ j x k s : Nat, a = nI j → v = nI x → SF j k s → (s ≤ 8 → x ≤ 9) → x ≤ 99999 → wp_X8_becomes (7 + a) v M (fun r N => K r N) := fun j x k s e1 e2 e3 e4 e5 => by
    rw [e1, show (7 : Int32) = nI 7 from rfl, nI_add]
    have : 7 + j = s := by unfold SF at e3; omega
    rw [this]
    exact m_becomes (by unfold SF at e3; omega) (h1 j x k s e1 e2 e3 e4 e5)
  refine w8z 0 1 (by decide) (by decide) (fun g1 g2 => ?_) (fun g => w8z 2 3 (by decide) (by decide) (fun g1 g2 => ?_) (fun g' => e8A (i := 1) (by omega) (by omega) (by decide) St.rf (h0 (fun c => ?_))))
  · obtain ⟨j, hj, rfl⟩ := nat_of (x := a) 1 g1 g2 (by decide)
    refine m_area (fun g3 g4 => ?_) (fun g' => e8A (i := 1) (by omega) (by omega) (by decide) St.rf (h0 (fun c => g' ?_)))
    · obtain ⟨x, hx, rfl⟩ := nat_of (x := v) 9 g3 g4 (by decide)
      rcases (by omega : j = 0 ∨ j = 1) with rfl | rfl
      · exact hb 0 x 4 7 rfl rfl (by unfold SF; omega) (by omega) (by omega)
      · exact hb 1 x 5 8 rfl rfl (by unfold SF; omega) (by omega) (by omega)
    · obtain ⟨c1, c2, c3⟩ := c
      rw [if_pos (by omega)] at c3; exact ⟨c2, c3⟩
  · obtain ⟨j, hj, rfl⟩ := nat_of (x := a) 3 (by omega) g2 (by decide)
    have ej : (nI j).toInt = (j : Int) := nI_toInt (by omega)
    refine w8z 0 99999 (by decide) (by decide) (fun g3 g4 => ?_) (fun g' => e8A (i := 1) (by omega) (by omega) (by decide) St.rf (h0 (fun c => g' ?_)))
    · obtain ⟨x, hx, rfl⟩ := nat_of (x := v) 99999 g3 g4 (by decide)
      rcases (by omega : j = 2 ∨ j = 3) with rfl | rfl
      · exact hb 2 x 7 9 rfl rfl (by unfold SF; omega) (by omega) (by omega)
      · exact hb 3 x 8 10 rfl rfl (by unfold SF; omega) (by omega) (by omega)
    · obtain ⟨c1, c2, c3⟩ := c
      rw [if_neg (by omega)] at c3; exact ⟨c2, c3⟩
  · obtain ⟨⟨c1, c2⟩, c3⟩ := c
    omega
theorem set_sa {n b t j k s x : Nat} {V : Nat → Nat} {h : Nat → Int32} (hS : SA 1 80 n b t V h M) (hF : SF j k s) (h8 : s ≤ 8 → x ≤ 9) (h9 : x ≤ 99999) : M 12 k = M 80 s ∧ SA 1 80 n b t (adf V s x) h (up (up M 12 k (nI x)) 80 s (nI x)) := by
  have hR := hS.2.2.1
  have hV := hS.rv
  have hn := hV.1
  have h0 := hS.v0
  have hz := hS.bt.2.2.1
  have hG := hS.1
  have h7 : M 12 7 = nI (V 9) := hS.2.1
  obtain ⟨v1, v2, v3, v4, v5, v6, v7⟩ := hV
  have hs : 7 ≤ s ∧ s ≤ 10 := by unfold SF at hF; omega
  refine ⟨?_, hS.num (fun c c1 c2 c3 c4 c5 => by rw [up_o _ (by omega), up_o _ (by omega)]) (fun k' hk' => by rw [up_cell (by omega), up_cell (by omega)]) (fun k' hk' => by rw [up_slot _ (by omega), up_cell (by omega)]) ?_ ?_ ?_ ?_ ?_ ?_ hS.hh⟩
  · rw [hR.2.2 s (Or.inr (Or.inl (by omega)))]
    rcases hF with ⟨-, rfl, rfl⟩ | ⟨-, rfl, rfl⟩ | ⟨-, rfl, rfl⟩ | ⟨-, rfl, rfl⟩
    · exact hG.2.1
    · exact hG.2.2.1
    · exact h7
    · exact hG.2.2.2.2.1
  · rw [up_cell (by omega), up_cell (by omega), up_slot _ (by omega), up_cell (by omega)]; exact hz
  · have : RG 12 n h (adf V s x) (up M 12 k (nI x)) := by
      rcases hF with ⟨-, rfl, rfl⟩ | ⟨-, rfl, rfl⟩ | ⟨-, rfl, rfl⟩ | ⟨-, rfl, rfl⟩
      · exact RG.gr (g := 12) hG hn (Or.inl ⟨rfl, rfl⟩)
      · exact RG.gr (g := 12) hG hn (Or.inr ⟨rfl, rfl⟩)
      · exact RG.harm (g := 12) hG hn
      · exact RG.pe (g := 12) hG hn
    exact this.same hn (fun c c1 c2 => up_o _ (by omega))
  · rw [up_cell (by omega)]
    rcases hF with ⟨-, rfl, rfl⟩ | ⟨-, rfl, rfl⟩ | ⟨-, rfl, rfl⟩ | ⟨-, rfl, rfl⟩
    · rw [up_slot _ (by omega), adf_o (by omega)]; exact h7
    · rw [up_slot _ (by omega), adf_o (by omega)]; exact h7
    · rw [up_same, adf_s]
    · rw [up_slot _ (by omega), adf_o (by omega)]; exact h7
  · exact RR.put (M := up M 12 k (nI x)) (by rw [up_o _ (by omega)]; exact hR) (by omega) (fun q hq => by omega)
  · have key : ∀ j' m, V j' ≤ m → (s = j' → x ≤ m) → adf V s x j' ≤ m := fun j' m a c => by
      by_cases e : j' = s
      · rw [e, adf_s]; exact c e.symm
      · rw [adf_o e]; exact a
    refine ⟨v1, by rw [adf_o (by omega)]; exact v2, key 7 9 v3 (fun e => h8 (by omega)), key 8 9 v4 (fun e => h8 (by omega)), key 9 99999 v5 (fun _ => h9), key 10 99999 v6 (fun _ => h9), fun q hq => ?_⟩
    rw [adf_o (by omega), adf_o (by omega), adf_o (by omega), adf_o (by omega), adf_o (by omega), adf_o (by omega)]
    exact v7 q hq
  · rw [adf_o (by omega)]; exact h0
theorem z2_set {a v : Int32} (hI : Inv2 i M) : wp_X7_set a v M (fun r1 M1 => wp_X8_set a v M1 (fun r2 M2 => r1 = r2 ∧ Inv2 (i + 1) M2)) := by
  obtain ⟨n, b, t, V, h, hS⟩ := hI.2.1
  refine x_set (fun j x k s e1 e2 e3 e4 e5 => ?_) (fun g M1 p1 => y_set (fun j x k s e1 e2 e3 e4 e5 => absurd (VS_of e1 e2 e3 e4 e5) g) (fun _ M2 p2 => ⟨rfl, hI.th p1.1 p2.1⟩))
  refine y_set (fun j' x' k' s' e1' e2' e3' _ _ => ?_) (fun g => absurd (VS_of e1 e2 e3 e4 e5) g)
  have : j' = j := (nI_eq (by unfold SF at e3'; omega) (by unfold SF at e3; omega)).mp (e1'.symm.trans e1)
  have hs : s' = s := by unfold SF at e3 e3'; omega
  subst hs
  obtain ⟨q1, q2⟩ := set_sa hS e3 e4 e5
  rw [e2]
  have e : ∀ c, c ≠ 12 → c ≠ 80 → (up (up M 12 k (nI x)) 80 s' (nI x)) c = M c := fun c c1 c2 => by rw [up_o _ c2, up_o _ c1]
  exact ⟨by rw [up_cell (by omega)]; exact q1, hI.rest (fun c hc => e c (by simp at hc; omega) (by simp at hc; omega)) (by rw [e 79 (by omega) (by omega)]) (by rw [e 79 (by omega) (by omega)]) (by rw [e 79 (by omega) (by omega)]) q2⟩
/-- one number of a one changed in both -/
theorem one_sa {n b t j k s x : Nat} {V : Nat → Nat} {h : Nat → Int32} (hS : SA 1 80 n b t V h M) (hj : j < n) (hF : FS k s) (hx : (s = 11 → x ≤ 6) ∧ (s = 12 → x ≤ 9) ∧ (s = 13 → x ≤ 9) ∧ (s = 14 → x ≤ 99) ∧ (s = 16 → x ≤ 1) ∧ (s = 17 → x ≤ 999)) {M2 : Mem} (hM : M2 = up (up M (14 + j) k (nI x)) 80 (s + 7 * j) (nI x)) : M (14 + j) k = M 80 (s + 7 * j) ∧ SA 1 80 n b t (adf V (s + 7 * j) x) h M2 := by
  subst hM
  have hR := hS.2.2.1
  have hV := hS.rv
  have hn := hV.1
  have h0 := hS.v0
  have hz := hS.bt.2.2.1
  have hG : RG 12 n h V M := hS.1
  have h7 : M 12 7 = nI (V 9) := hS.2.1
  have hs : 11 ≤ s ∧ s ≤ 17 ∧ s ≠ 15 := by unfold FS at hF; omega
  refine ⟨?_, hS.num (fun c c1 c2 c3 c4 c5 => by rw [up_o _ (by omega), up_o _ (by omega)]) (fun k' hk' => by rw [up_cell (by omega), up_cell (by omega)]) (fun k' hk' => by rw [up_slot _ (by omega), up_cell (by omega)]) ?_ ?_ ?_ ?_ (hV.putA hj (by omega) hx) ?_ hS.hh⟩
  · obtain ⟨p1, p2, p3, p4, p5, p6, p7⟩ := hG.2.2.2.2.2 j hj
    have e : M 80 (s + 7 * j) = nI (V (s + 7 * j)) := hR.2.2 _ (Or.inr (Or.inr ⟨j, s - 11, hj, by omega, by omega, by omega⟩))
    rw [e]
    rcases hF with ⟨rfl, rfl⟩ | ⟨rfl, rfl⟩ | ⟨rfl, rfl⟩ | ⟨rfl, rfl⟩ | ⟨rfl, rfl⟩ | ⟨rfl, rfl⟩
    · exact p1
    · exact p2
    · exact p3
    · exact p4
    · exact p6
    · exact p7
  · rw [up_cell (by omega), up_cell (by omega), up_slot _ (by omega), up_cell (by omega)]; exact hz
  · have := hG.putA (x := x) hj hn hF
    exact RG.same this hn (fun c c1 c2 => up_o _ (by omega))
  · rw [up_cell (by omega), up_cell (by omega), adf_o (by omega)]; exact h7
  · exact RR.put (M := up M (14 + j) k (nI x)) (by rw [up_o _ (by omega)]; exact hR) (by omega) (fun q hq => by omega)
  · rw [adf_o (by omega)]; exact h0
/-- what change changes: field k, number at s, for the word w -/
def CF2 (w k s : Nat) : Prop := (w = 0 ∧ k = 2 ∧ s = 13) ∨ (w = 1 ∧ k = 3 ∧ s = 14) ∨ (w = 2 ∧ k = 6 ∧ s = 16) ∨ (w = 3 ∧ k = 5 ∧ s = 17)
def mxW (w : Nat) : Nat := if w = 0 then 9 else if w = 1 then 99 else if w = 2 then 1 else 999
def VC (n : Nat) (a c v : Int32) : Prop := ∃ j w x : Nat, j < n ∧ w ≤ 3 ∧ x ≤ mxW w ∧ a = nI j ∧ c = nI w ∧ v = nI x
theorem mxW_le {w : Nat} : mxW w ≤ 999 := by
  unfold mxW
  repeat' split
  all_goals omega
theorem x_change {n : Nat} {a c v : Int32} {K : Int32 → Mem → Prop} (hn : n ≤ 9) (hm : M 12 3 = nI n) (hB : ∀ q : Nat, q < n → BoolOK (M (14 + q) 6)) (h1 : ∀ j w x k s : Nat, j < n → a = nI j → c = nI w → v = nI x → CF2 w k s → x ≤ mxW w → K (M (14 + j) k) (up M (14 + j) k v)) (h0 : ¬ VC n a c v → ∀ M1, PC 1 M M1 → K (erA 1).1 M1) : wp_X7_change a c v M K := by
  unfold wp_X7_change
  have bad : ¬ VC n a c v → wp_X7_refuse (-1000000001) M K := fun g => e7A (i := 1) (by omega) (by omega) (by decide) St.rf (h0 g)
  refine q7z hn hm (fun j hj ej => ?_) (fun g => bad (fun ⟨j, w, x, hj, _, _, e, _, _⟩ => g (by rw [e, nI_toInt (by omega)]; omega)))
  subst ej
  refine w7z 0 3 (by decide) (by decide) (fun g1 g2 => ?_) (fun g => bad (fun ⟨j, w, x, _, hw, _, _, e, _⟩ => g (by rw [e, nI_toInt (by omega)]; omega)))
  obtain ⟨w, hw, rfl⟩ := nat_of (x := c) 3 g1 g2 (by decide)
  have key : ∀ m : Nat, m = mxW w → wp_X7_isWithin v 0 (nI m) M (fun r8 M8 => (¬ r8 = 0 → vp_in (nI j) 9 ∧ (wp_X1_changeTo (14 + (nI j).toNatClampNeg) (nI w) v M8 (fun r12 M12 => K r12 M12))) ∧ (r8 = 0 → wp_X7_refuse (-1000000001) M8 (fun r13 M13 => K r13 M13))) := by
    intro m hmx
    have hml := mxW_le (w := w)
    refine w7n 0 m (by decide) (nI_toInt (by omega)) (fun g3 g4 => ?_) (fun g => bad (fun ⟨j', w', x, _, hw', hx, _, e, e2⟩ => g ?_))
    · obtain ⟨x, hx, rfl⟩ := nat_of (x := v) m g3 g4 (by omega)
      rw [nI_clamp (by omega)]
      refine ⟨vp_in_nI (by omega) (by decide), ?_⟩
      unfold wp_X1_changeTo
      refine ⟨fun e => ?_, fun e0 => ⟨fun e => ?_, fun e1 => ⟨fun e => ?_, fun e2 => ?_⟩⟩⟩
      · have : w = 0 := (nI_eq (a := w) (b := 0) (by omega) (by omega)).mp e
        exact h1 j w x 2 13 hj rfl rfl rfl (by unfold CF2; omega) (by omega)
      · have : w = 1 := (nI_eq (a := w) (b := 1) (by omega) (by omega)).mp e
        exact h1 j w x 3 14 hj rfl rfl rfl (by unfold CF2; omega) (by omega)
      · have : w = 2 := (nI_eq (a := w) (b := 2) (by omega) (by omega)).mp e
        have hx1 : x ≤ 1 := by rw [hmx, this] at hx; exact hx
        have hk := h1 j w x 6 16 hj rfl rfl rfl (by unfold CF2; omega) (by omega)
        have hx2 : x = 0 ∨ x = 1 := by omega
        refine ⟨fun b0 => ⟨fun v1 => ?_, fun v1 => ?_⟩, fun b0 => ⟨fun v1 => ?_, fun v1 => ?_⟩⟩
        · rcases hx2 with rfl | rfl
          · rw [b0] at hk; exact hk
          · exact absurd rfl v1
        · rw [b0, v1] at hk; exact hk
        · have : M (14 + j) 6 = 1 := (hB j hj).resolve_left b0
          rcases hx2 with rfl | rfl
          · rw [this] at hk; exact hk
          · exact absurd rfl v1
        · have : M (14 + j) 6 = 1 := (hB j hj).resolve_left b0
          rw [this, v1] at hk; exact hk
      · have n0 : w ≠ 0 := fun h => e0 (by rw [h]; rfl)
        have n1 : w ≠ 1 := fun h => e1 (by rw [h]; rfl)
        have n2 : w ≠ 2 := fun h => e2 (by rw [h]; rfl)
        exact h1 j w x 5 17 hj rfl rfl rfl (by unfold CF2; omega) (by omega)
    · have : w' = w := ((nI_eq (by omega) (by omega)).mp e).symm
      subst this
      rw [e2, nI_toInt (by omega)]; omega
  unfold wp_X7_mostOfQuarrel
  refine ⟨fun e => key 9 ?_, fun e0 => ⟨fun e => key 99 ?_, fun e1 => ⟨fun e => key 1 ?_, fun e2 => key 999 ?_⟩⟩⟩
  · have := (nI_eq (a := w) (b := 0) (by omega) (by omega)).mp e
    subst this; rfl
  · have := (nI_eq (a := w) (b := 1) (by omega) (by omega)).mp e
    subst this; rfl
  · have := (nI_eq (a := w) (b := 2) (by omega) (by omega)).mp e
    subst this; rfl
  · have n0 : w ≠ 0 := fun h => e0 (by rw [h]; rfl)
    have n1 : w ≠ 1 := fun h => e1 (by rw [h]; rfl)
    have n2 : w ≠ 2 := fun h => e2 (by rw [h]; rfl)
    unfold mxW; rw [if_neg n0, if_neg n1, if_neg n2]
theorem y_change {n : Nat} {a c v : Int32} {K : Int32 → Mem → Prop} (hn : n ≤ 9) (hm : M 80 2 = nI n) (h1 : ∀ j w x k s : Nat, j < n → a = nI j → c = nI w → v = nI x → CF2 w k s → x ≤ mxW w → K (M 80 (s + 7 * j)) (up M 80 (s + 7 * j) v)) (h0 : ¬ VC n a c v → ∀ M1, PM 1 M M1 → K (erA 1).1 M1) : wp_X8_change a c v M K := by
  have bad : ¬ VC n a c v → wp_X8_errs (-1000000001) M K := fun g => e8A (i := 1) (by omega) (by omega) (by decide) St.rf (h0 g)
  have hblk : ∀ t : Int32, (t = 0 → ¬ VC n a c v) → (¬ t = 0 → ∃ w x : Nat, w ≤ 3 ∧ c = nI w ∧ v = nI x ∧ x ≤ mxW w) → wp_X8_change_b61 K a c v t M := by
    intro t g0 g1
    unfold wp_X8_change_b61
    refine q8z hn hm (fun j hj ej => ⟨fun ht => ?_, fun ht => bad (g0 ht)⟩) (fun g => bad (fun ⟨j, w, x, hj, _, _, e, _, _⟩ => g (by rw [e, nI_toInt (by omega)]; omega)))
    subst ej
    obtain ⟨w, x, hw, rfl, rfl, hx⟩ := g1 ht
    rw [ixb]
    refine pk_le 2 w (fun q => ?_) (fun q => ?_)
    · have e1 : nI (11 + 7 * j) + (5 + nI w - 2) = nI (14 + w + 7 * j) := by
        rw [show (5 : Int32) = nI 5 from rfl, show (2 : Int32) = nI 2 from rfl, nI_add, pk_sub (by omega), nI_add, show 11 + 7 * j + (5 + w - 2) = 14 + w + 7 * j by omega]
      rw [e1]
      refine m_becomes (by omega) ?_
      rcases (by omega : w = 2 ∨ w = 3) with rfl | rfl
      · exact h1 j 2 x 6 16 hj rfl rfl rfl (by unfold CF2; omega) hx
      · exact h1 j 3 x 5 17 hj rfl rfl rfl (by unfold CF2; omega) hx
    · have e1 : nI (11 + 7 * j) + (2 + nI w) = nI (13 + w + 7 * j) := by
        rw [show (2 : Int32) = nI 2 from rfl, nI_add, nI_add, show 11 + 7 * j + (2 + w) = 13 + w + 7 * j by omega]
      rw [e1]
      refine m_becomes (by omega) ?_
      rcases (by omega : w = 0 ∨ w = 1) with rfl | rfl
      · exact h1 j 0 x 2 13 hj rfl rfl rfl (by unfold CF2; omega) hx
      · exact h1 j 1 x 3 14 hj rfl rfl rfl (by unfold CF2; omega) hx
  have wr : ∀ w m : Nat, w ≤ 3 → m = mxW w → c = nI w → ¬ (0 ≤ v.toInt ∧ v.toInt ≤ m) → ¬ VC n a c v := fun w m hw hmx ec g ⟨j, w', x, _, hw', hx, _, e, e2⟩ => by
    have : w' = w := (nI_eq (by omega) (by omega)).mp (e.symm.trans ec)
    subst this
    have hml := mxW_le (w := w')
    exact g (by rw [e2, nI_toInt (by omega)]; omega)
  have ok : ∀ w m : Nat, w ≤ 3 → m = mxW w → c = nI w → 0 ≤ v.toInt → v.toInt ≤ m → ∃ w x : Nat, w ≤ 3 ∧ c = nI w ∧ v = nI x ∧ x ≤ mxW w := fun w m hw hmx ec g1 g2 => by
    have hml := mxW_le (w := w)
    obtain ⟨x, hx, ex⟩ := nat_of (x := v) m g1 g2 (by omega)
    exact ⟨w, x, hw, ec, ex, by omega⟩
  unfold wp_X8_change
  refine ⟨fun n0 => ⟨fun n1 => ⟨fun n2 => ⟨fun n3 => hblk 0 (fun _ => ?_) (fun g => absurd rfl g), fun e => ?_⟩, fun e => ?_⟩, fun e => ?_⟩, fun e => ?_⟩
  · rintro ⟨j, w, x, _, hw, _, _, ec, _⟩
    rcases (by omega : w = 0 ∨ w = 1 ∨ w = 2 ∨ w = 3) with rfl | rfl | rfl | rfl
    · exact n0 ec
    · exact n1 ec
    · exact n2 ec
    · exact n3 ec
  · exact w8 0 999 (by decide) (by decide) (fun g1 g2 => b1a (hblk 1 (fun g => absurd g (by decide)) (fun _ => ok 3 999 (by omega) rfl e g1 g2))) (fun g => b0a (hblk 0 (fun _ => wr 3 999 (by omega) rfl e g) (fun g => absurd rfl g)))
  · exact w8 0 1 (by decide) (by decide) (fun g1 g2 => hblk 1 (fun g => absurd g (by decide)) (fun _ => ok 2 1 (by omega) rfl e g1 g2)) (fun g => hblk 0 (fun _ => wr 2 1 (by omega) rfl e g) (fun g => absurd rfl g))
  · exact w8 0 99 (by decide) (by decide) (fun g1 g2 => hblk 1 (fun g => absurd g (by decide)) (fun _ => ok 1 99 (by omega) rfl e g1 g2)) (fun g => hblk 0 (fun _ => wr 1 99 (by omega) rfl e g) (fun g => absurd rfl g))
  · unfold wp_X8_isArea
    exact w8 0 9 (by decide) (by decide) (fun g1 g2 => ⟨Or.inr rfl, hblk 1 (fun g => absurd g (by decide)) (fun _ => ok 0 9 (by omega) rfl e g1 g2)⟩) (fun g => ⟨Or.inl rfl, hblk 0 (fun _ => wr 0 9 (by omega) rfl e g) (fun g => absurd rfl g)⟩)
theorem FS_of {w k s : Nat} (h : CF2 w k s) : FS k s := by
  rcases h with ⟨-, rfl, rfl⟩ | ⟨-, rfl, rfl⟩ | ⟨-, rfl, rfl⟩ | ⟨-, rfl, rfl⟩
  · exact Or.inr (Or.inr (Or.inl ⟨rfl, rfl⟩))
  · exact Or.inr (Or.inr (Or.inr (Or.inl ⟨rfl, rfl⟩)))
  · exact Or.inr (Or.inr (Or.inr (Or.inr (Or.inl ⟨rfl, rfl⟩))))
  · exact Or.inr (Or.inr (Or.inr (Or.inr (Or.inr ⟨rfl, rfl⟩))))
theorem mx_of {w k s x : Nat} (h : CF2 w k s) (hx : x ≤ mxW w) : (s = 11 → x ≤ 6) ∧ (s = 12 → x ≤ 9) ∧ (s = 13 → x ≤ 9) ∧ (s = 14 → x ≤ 99) ∧ (s = 16 → x ≤ 1) ∧ (s = 17 → x ≤ 999) := by
  rcases h with ⟨rfl, -, rfl⟩ | ⟨rfl, -, rfl⟩ | ⟨rfl, -, rfl⟩ | ⟨rfl, -, rfl⟩
  · exact ⟨fun e => absurd e (by decide), fun e => absurd e (by decide), fun _ => hx, fun e => absurd e (by decide), fun e => absurd e (by decide), fun e => absurd e (by decide)⟩
  · exact ⟨fun e => absurd e (by decide), fun e => absurd e (by decide), fun e => absurd e (by decide), fun _ => hx, fun e => absurd e (by decide), fun e => absurd e (by decide)⟩
  · exact ⟨fun e => absurd e (by decide), fun e => absurd e (by decide), fun e => absurd e (by decide), fun e => absurd e (by decide), fun _ => hx, fun e => absurd e (by decide)⟩
  · exact ⟨fun e => absurd e (by decide), fun e => absurd e (by decide), fun e => absurd e (by decide), fun e => absurd e (by decide), fun e => absurd e (by decide), fun _ => hx⟩
theorem CF2.w3 {w k s : Nat} (h : CF2 w k s) : w ≤ 3 := by
  rcases h with ⟨rfl, -, -⟩ | ⟨rfl, -, -⟩ | ⟨rfl, -, -⟩ | ⟨rfl, -, -⟩ <;> decide
theorem CF2.ss {w k s s' k' : Nat} (h : CF2 w k s) (h' : CF2 w k' s') : s' = s := by
  unfold CF2 at h h'; omega
theorem CF2.sb {w k s : Nat} (h : CF2 w k s) : 13 ≤ s ∧ s ≤ 17 := by
  unfold CF2 at h; omega
theorem z2_change {a c v : Int32} (hI : Inv2 i M) : wp_X7_change a c v M (fun r1 M1 => wp_X8_change a c v M1 (fun r2 M2 => r1 = r2 ∧ Inv2 (i + 1) M2)) := by
  obtain ⟨n, b, t, V, h, hS⟩ := hI.2.1
  have hn := hS.rv.1
  have hm : M 80 2 = nI n := hS.2.2.1.1
  have hB : ∀ q : Nat, q < n → BoolOK (M (14 + q) 6) := hS.nw.1.cn.2.2.1
  refine x_change hn hS.1.1 hB (fun j w x k s hj e1 e2 e3 e4 e5 => ?_) (fun g M1 p1 => y_change hn (by rw [p1.1 80 rfl]; exact hm) (fun j w x k s hj e1 e2 e3 e4 e5 => absurd ⟨j, w, x, hj, CF2.w3 e4, e5, e1, e2, e3⟩ g) (fun _ M2 p2 => ⟨rfl, hI.th p1.1 p2.1⟩))
  refine y_change hn (by rw [up_cell (by omega)]; exact hm) (fun j' w' x' k' s' hj' e1' e2' e3' e4' e5' => ?_) (fun g => absurd ⟨j, w, x, hj, CF2.w3 e4, e5, e1, e2, e3⟩ g)
  have h1 : j' = j := (nI_eq (by omega) (by omega)).mp (e1'.symm.trans e1)
  have h2 : w' = w := (nI_eq (Nat.lt_of_le_of_lt (CF2.w3 e4') (by decide)) (Nat.lt_of_le_of_lt (CF2.w3 e4) (by decide))).mp (e2'.symm.trans e2)
  subst h2
  have hs : s' = s := CF2.ss e4 e4'
  subst h1; subst hs
  rw [e3]
  obtain ⟨q1, q2⟩ := one_sa (k := k) (s := s') (x := x) hS hj (FS_of e4) (mx_of e4 e5) rfl
  have e : ∀ c, (c < 14 ∨ 22 < c) → c ≠ 80 → (up (up M (14 + j') k (nI x)) 80 (s' + 7 * j') (nI x)) c = M c := fun c c1 c2 => by rw [up_o _ c2, up_o _ (by omega)]
  exact ⟨by rw [up_cell (by omega)]; exact q1, hI.rest (fun c hc => e c (by simp at hc; omega) (by simp at hc; omega)) (by rw [e 79 (by omega) (by omega)]) (by rw [e 79 (by omega) (by omega)]) (by rw [e 79 (by omega) (by omega)]) q2⟩
theorem z2_become {a km : Int32} (hI : Inv2 i M) : wp_X7_become a km M (fun r1 M1 => wp_X8_become a km M1 (fun r2 M2 => r1 = r2 ∧ Inv2 (i + 1) M2)) := by
  obtain ⟨n, b, t, V, h, hS⟩ := hI.2.1
  have hn := hS.rv.1
  have hN := hS.nw
  refine p_become hN.1.cn (fun j hj ej g1 g2 => ?_) (fun g M1 h1 => ?_)
  · have em : ∀ c, c ≠ 14 + j → (up (up M (14 + j) 0 (km / 10)) (14 + j) 1 (km - km / 10 * 10)) c = M c := fun c hc => by rw [up_o _ hc, up_o _ hc]
    refine m_become (by rw [em 80 (by omega)]; exact hN.2.1) (fun j' hj' ej' _ _ => ?_) (fun g => absurd ⟨by rw [ej, nI_toInt (by omega)]; omega, g1, g2⟩ g)
    have : j' = j := (nI_eq (by omega) (by omega)).mp (ej'.symm.trans ej)
    subst this
    obtain ⟨x, hx, rfl⟩ := nat_of (x := km) 69 g1 g2 (by decide)
    rw [show (10 : Int32) = nI 10 from rfl, pk_rem (by omega) (by omega) (by omega), pk_div (by omega) (by omega) (by omega)]
    obtain ⟨q1, q2⟩ := one_sa (k := 0) (s := 11) (x := x / 10) hS hj (by unfold FS; omega) (by omega) rfl
    obtain ⟨q3, q4⟩ := one_sa (k := 1) (s := 12) (x := x % 10) q2 hj (by unfold FS; omega) (by omega) rfl
    have hM : (up (up (up (up M (14 + j') 0 (nI (x / 10))) (14 + j') 1 (nI (x % 10))) 80 (12 + 7 * j') (nI (x % 10))) 80 (11 + 7 * j') (nI (x / 10))) = (up (up (up (up M (14 + j') 0 (nI (x / 10))) 80 (11 + 7 * j') (nI (x / 10))) (14 + j') 1 (nI (x % 10))) 80 (12 + 7 * j') (nI (x % 10))) := by
      funext c k
      unfold up
      by_cases c1 : c = 80
      · subst c1
        have n1 : ¬ (80 = 14 + j') := by omega
        by_cases k1 : k = 11 + 7 * j'
        · have k2 : ¬ k = 12 + 7 * j' := by omega
          simp [n1, k1]
        · by_cases k2 : k = 12 + 7 * j'
          · simp [n1, k2]
          · simp [n1, k1, k2]
      · simp [c1]
    rw [hM]
    have e : ∀ c, (c < 14 ∨ 22 < c) → c ≠ 80 → (up (up (up (up M (14 + j') 0 (nI (x / 10))) 80 (11 + 7 * j') (nI (x / 10))) (14 + j') 1 (nI (x % 10))) 80 (12 + 7 * j') (nI (x % 10))) c = M c := fun c c1 c2 => by rw [up_o _ c2, up_o _ (by omega), up_o _ c2, up_o _ (by omega)]
    exact ⟨by rw [up_cell (by omega), up_cell (by omega)]; exact q1, hI.rest (fun c hc => e c (by simp at hc; omega) (by simp at hc; omega)) (by rw [e 79 (by omega) (by omega)]) (by rw [e 79 (by omega) (by omega)]) (by rw [e 79 (by omega) (by omega)]) q4⟩
  · have em : M1 80 = M 80 := h1 80 rfl
    exact m_become (by rw [em]; exact hN.2.1) (fun j hj ej g1 g2 => absurd ⟨by rw [ej, nI_toInt (by omega)]; omega, g1, g2⟩ g) (fun _ M2 h2 => ⟨rfl, hI.th h1 h2⟩)
end ZG
