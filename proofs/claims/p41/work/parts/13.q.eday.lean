theorem tvN_keep {t : Nat} {M M1 : Mem} (e0 : M1 t = M t) (e1 : M1 (t + 1) = M (t + 1)) (e2 : M1 (t + 2) = M (t + 2)) (e3 : M1 (t + 3) = M (t + 3)) : tvN t M1 = tvN t M := by
  funext a b c; unfold tvN; rw [tv_keep e0 e1 e2 e3]
def dayN (lg lh : Nat → Nat → Nat → Nat) (wh : Bool) (h : Nat → Int32) (n : Nat) (V : Nat → Nat) : Nat → Nat :=
  adf (adf (endN lh wh h n (grindN lg n V)) 7 ((endN lh wh h n (grindN lg n V) 7 + endN lh wh h n (grindN lg n V) 8) % 10)) 0 (endN lh wh h n (grindN lg n V) 0 + 1)
theorem grindN_9 {lg : Nat → Nat → Nat → Nat} {V : Nat → Nat} : ∀ n, grindN lg n V 9 = V 9 := by
  intro n
  induction n with
  | zero => rfl
  | succ n ih =>
    show grind1 lg n (grindN lg n V) 9 = V 9
    unfold grind1
    split
    · rw [adf_o (by omega), adf_o (by omega)]; exact ih
    · exact ih
theorem e_day {g n : Nat} {h : Nat → Int32} {V : Nat → Nat} {M : Mem} {K : Mem → Prop} {wh : Bool} {fl : Int32} (hfl : fl = if wh = true then 1 else 0) (hF : GF g) (hR : RG g n h V M) (h7 : M g 7 = nI (V 9)) (hV : RV n V) (hH : HH n h) (hT2 : M 2 5 = 0 ∨ ∃ z, TC 2 z M) (hT7 : M 7 5 = 0 ∨ ∃ z, TC 7 z M) (hk : ∀ M1, St (SD g) M M1 → M1 g 7 = nI (dayN (tvN 2 M) (tvN 7 M) wh h n V 9) → RG g n h (dayN (tvN 2 M) (tvN 7 M) wh h n V) M1 → K M1) : wp_X0_passDay g fl M K := by
  have hn9 := hV.1
  have hg : g = 12 ∨ g = 49 := hF.2.2.2.2.2
  unfold wp_X0_passDay wp_X0_restDay
  refine e_grind hF hR hV hT2 (fun M1 s1 a7 hR1 => ?_)
  have k7 : M1 7 = M 7 := s1 7 (by rcases hg with rfl | rfl <;> rfl)
  have k8 : M1 8 = M 8 := s1 8 (by rcases hg with rfl | rfl <;> rfl)
  have k9 : M1 9 = M 9 := s1 9 (by rcases hg with rfl | rfl <;> rfl)
  have k10 : M1 10 = M 10 := s1 10 (by rcases hg with rfl | rfl <;> rfl)
  have hT7' : M1 7 5 = 0 ∨ ∃ z, TC 7 z M1 := by
    unfold TC
    rw [k7, show M1 (7 + 1) = M (7 + 1) from k8, show M1 (7 + 2) = M (7 + 2) from k9, show M1 (7 + 3) = M (7 + 3) from k10]
    exact hT7
  refine e_end hfl hF hR1 (by rw [a7, h7, grindN_9]) (rv_grindN hV n (Nat.le_refl n)) hH hT7' (fun M2 s2 b7 hR2 => ?_)
  have hv2 := rv_endN (lh := tvN 7 M) (wh := wh) (h := h) (rv_grindN (lg := tvN 2 M) hV n (Nat.le_refl n)) n (Nat.le_refl n)
  rw [tvN_keep k7 k8 k9 k10] at b7 hR2
  unfold dayN at hk
  generalize endN (tvN 7 M) wh h n (grindN (tvN 2 M) n V) = W at hk b7 hR2 hv2
  rintro _ rfl
  obtain ⟨r1, r2, r3, r4, r5, r6⟩ := hR2
  obtain ⟨v1, v2, v3, v4, v5, v6, v7⟩ := hv2
  rw [up_slot _ (by decide), r2, r3, r4, nI_add, show (10 : Int32) = nI 10 from rfl, pk_rem (by omega) (by omega) (by omega), nI_1]
  have mk : ∀ x y k, k ≠ 4 → k ≠ 6 → up (up M2 g 4 x) g 6 y g k = M2 g k := fun x y k h4 h6 => by rw [up_slot _ h6, up_slot _ h4]
  have a : ∀ x y j, j ≠ 0 → j ≠ 7 → adf (adf W 7 x) 0 y j = W j := fun x y j j0 j7 => by rw [adf_o j0, adf_o j7]
  refine hk _ (((s1.w (by intro c hc; simp at hc ⊢; omega)).tr (s2.w (by intro c hc; simp at hc ⊢; omega))).up (by simp) |>.up (by simp)) ?_ ⟨?_, ?_, ?_, ?_, ?_, fun q hq => ?_⟩
  · rw [mk _ _ _ (by decide) (by decide), a _ _ _ (by omega) (by omega)]; exact b7
  · rw [mk _ _ _ (by decide) (by decide)]; exact r1
  · rw [up_slot _ (by decide), up_same, adf_o (by omega), adf_s]
  · rw [mk _ _ _ (by decide) (by decide), a _ _ _ (by omega) (by omega)]; exact r3
  · rw [up_same, adf_s]
  · rw [mk _ _ _ (by decide) (by decide), a _ _ _ (by omega) (by omega)]; exact r5
  · obtain ⟨p1, p2, p3, p4, p5, p6, p7⟩ := r6 q hq
    have hc : ∀ x y j, up (up M2 g 4 x) g 6 y (g + 2 + q) j = M2 (g + 2 + q) j := fun x y j => by rw [up_cell (by omega), up_cell (by omega)]
    refine ⟨by rw [hc, a _ _ _ (by omega) (by omega)]; exact p1, by rw [hc, a _ _ _ (by omega) (by omega)]; exact p2, by rw [hc, a _ _ _ (by omega) (by omega)]; exact p3, by rw [hc, a _ _ _ (by omega) (by omega)]; exact p4, by rw [hc]; exact p5, by rw [hc, a _ _ _ (by omega) (by omega)]; exact p6, by rw [hc, a _ _ _ (by omega) (by omega)]; exact p7⟩
