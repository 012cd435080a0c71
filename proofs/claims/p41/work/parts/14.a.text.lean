theorem RR.same {n : Nat} {h : Nat → Int32} {V : Nat → Nat} {f f1 : Nat → Int32} (hR : RR n h V f) (hn : n ≤ 9) (hk : ∀ k, k ≤ 73 → k ≠ 1 → k ≠ 3 → k ≠ 4 → k ≠ 5 → k ≠ 6 → f1 k = f k) : RR n h V f1 := by
  refine ⟨by rw [hk 2 (by omega) (by omega) (by omega) (by omega) (by omega) (by omega)]; exact hR.1, fun q hq => by rw [hk _ (by omega) (by omega) (by omega) (by omega) (by omega) (by omega)]; exact hR.2.1 q hq, fun k hN => ?_⟩
  have hN0 := hN
  have : k ≤ 73 ∧ k ≠ 1 ∧ k ≠ 3 ∧ k ≠ 4 ∧ k ≠ 5 ∧ k ≠ 6 := by
    rcases hN with h | h | ⟨q, w, q1, q2, q3, q4⟩ <;> omega
  rw [hk k this.1 this.2.1 this.2.2.1 this.2.2.2.1 this.2.2.2.2.1 this.2.2.2.2.2]
  exact hR.2.2 k hN0
/-- what is, with other texts, tape, waiting numbers or z -/
theorem SA.re {n b t b' t' : Nat} {V : Nat → Nat} {h : Nat → Int32} {M M1 : Mem} (hS : SA 1 80 n b t V h M) (hg : ∀ c, 12 ≤ c → c ≤ 22 → M1 c = M c) (hr : ∀ k, k ≤ 73 → k ≠ 1 → k ≠ 3 → k ≠ 4 → k ≠ 5 → k ≠ 6 → M1 80 k = M 80 k) (h0 : TQ 2 0 (M1 80) M1) (h1 : TQ 7 1 (M1 80) M1) (hb : b' ≤ 50 ∧ M1 1 5 = nI b' ∧ M1 80 3 = nI b') (ht : t' ≤ 20 ∧ M1 1 6 = nI t' ∧ M1 80 4 = nI t') (hz : M1 1 7 = M1 80 1) (hT : ∀ j : Nat, j < b' → M1 23 j = M1 80 (74 + j)) (hW : ∀ j : Nat, j < t' → M1 24 j = M1 80 (124 + j)) : SA 1 80 n b' t' V h M1 := by
  obtain ⟨s1, s2, s3, s4, s5, s6, s7, s8, s9, s10, s11, s12, s13⟩ := hS
  have hn := s4.1
  exact ⟨s1.same hn (fun c c1 c2 => hg c (by omega) (by omega)), by rw [hg (1 + 11) (by omega) (by omega)]; exact s2, s3.same hn hr, s4, s5, s6, h0, h1, hb, ht, hz, hT, hW⟩
theorem SA.bt {n b t : Nat} {V : Nat → Nat} {h : Nat → Int32} {M : Mem} (hS : SA 1 80 n b t V h M) : (b ≤ 50 ∧ M 1 5 = nI b ∧ M 80 3 = nI b) ∧ (t ≤ 20 ∧ M 1 6 = nI t ∧ M 80 4 = nI t) ∧ M 1 7 = M 80 1 ∧ (∀ j : Nat, j < b → M 23 j = M 80 (74 + j)) ∧ ∀ j : Nat, j < t → M 24 j = M 80 (124 + j) := by
  obtain ⟨s1, s2, s3, s4, s5, s6, s7, s8, s9, s10, s11, s12, s13⟩ := hS
  exact ⟨s9, s10, s11, s12, s13⟩
def lawA (M : Mem) (a x y z : Int32) : Ans := if 0 ≤ a.toInt ∧ a.toInt ≤ 1 then (tv (2 + 5 * a.toNatClampNeg) M x y z, 0) else erA 1
theorem C_law {n b t : Nat} {V : Nat → Nat} {h : Nat → Int32} {M : Mem} {K : Int32 → Mem → Prop} {a x y z : Int32} (hS : SA 1 80 n b t V h M) (hk : ∀ M1, PC (lawA M a x y z).2 M M1 → K (lawA M a x y z).1 M1) : wp_X7_law a x y z M K := by
  unfold wp_X7_law
  unfold lawA at hk
  refine w7n 0 1 (by decide) (by decide) (fun g1 g2 => ?_) (fun g => ?_)
  · rw [if_pos ⟨g1, g2⟩] at hk
    obtain ⟨u, hu, rfl⟩ := nat_of (x := a) 1 g1 g2 (by decide)
    rw [nI_clamp (by omega)] at hk
    unfold wp_X6_textOf
    rcases (by omega : u = 0 ∨ u = 1) with rfl | rfl
    · exact ⟨fun q => absurd rfl q, fun _ => ⟨cl_t2, e_gives TF2 hS.t0.tc (fun M1 h1 => hk _ (PC.of (h1.w (by simp <;> omega))))⟩⟩
    · exact ⟨fun _ => ⟨cl_t7, e_gives TF7 hS.t1.tc (fun M1 h1 => hk _ (PC.of (h1.w (by simp <;> omega))))⟩, fun q => absurd q (by decide)⟩
  · rw [if_neg g] at hk
    exact e7A (i := 1) (by omega) (by omega) (by decide) St.rf hk
theorem G_law {M X : Mem} {K : Int32 → Mem → Prop} {a x y z : Int32} (h0 : TQ 2 0 (M 80) X) (h1 : TQ 7 1 (M 80) X) (hk : ∀ M1, PM (lawA X a x y z).2 M M1 → K (lawA X a x y z).1 M1) : wp_X8_law a x y z M K := by
  unfold wp_X8_law
  unfold lawA at hk
  refine w8z 0 1 (by decide) (by decide) (fun g1 g2 => ?_) (fun g => ?_)
  · rw [if_pos ⟨g1, g2⟩] at hk
    obtain ⟨u, hu, rfl⟩ := nat_of (x := a) 1 g1 g2 (by decide)
    rw [nI_clamp (by omega)] at hk
    rcases (by omega : u = 0 ∨ u = 1) with rfl | rfl
    · exact e_lawOf (t := 2) (w := 0) (by omega) h0 (fun M1 hs => hk _ (PM.of (hs.w (by simp <;> omega))))
    · exact e_lawOf (t := 7) (w := 1) (by omega) h1 (fun M1 hs => hk _ (PM.of (hs.w (by simp <;> omega))))
  · rw [if_neg g] at hk
    exact e8A (i := 1) (by omega) (by omega) (by decide) St.rf hk
section ZX
variable {i : Nat} {M : Mem}
theorem z2_law {a x y z : Int32} (hI : Inv2 i M) : wp_X7_law a x y z M (fun r1 M1 => wp_X8_law a x y z M1 (fun r2 M2 => r1 = r2 ∧ Inv2 (i + 1) M2)) := by
  obtain ⟨n, b, t, V, h, hS⟩ := hI.2.1
  exact z_of (A := lawA M a x y z) (W7 := wp_X7_law a x y z) (W8 := wp_X8_law a x y z) hI (fun K hk => C_law hS hk) (fun M1 h1 K hk => G_law (by rw [h1 80 rfl]; exact hS.t0) (by rw [h1 80 rfl]; exact hS.t1) hk)
theorem rowT_lo {f : Nat → Int32} {u z k : Nat} {g : Nat → Nat} (h3 : k ≠ 3) (h5 : k ≠ 5 + u) (h : k < 144 + 50 * u ∨ 144 + 50 * u + z ≤ k) : rowT f u z g k = f k := by
  unfold rowT
  rw [if_neg h3, if_neg h5, if_neg (by omega)]
theorem rowT_5 {f : Nat → Int32} {u z : Nat} {g : Nat → Nat} : rowT f u z g (5 + u) = nI z := by
  unfold rowT
  rw [if_neg (by omega), if_pos rfl]
theorem rowT_t {f : Nat → Int32} {u z j : Nat} {g : Nat → Nat} (hu : u < 2) (hj : j < z) : rowT f u z g (144 + 50 * u + j) = nI (g j) := by
  unfold rowT
  rw [if_neg (by omega), if_neg (by omega), if_pos (by omega), show 144 + 50 * u + j - (144 + 50 * u) = j by omega]
theorem row3_o {f : Nat → Int32} {k : Nat} (h : k ≠ 3) : row3 f k = f k := if_neg h
theorem z2_text {a : Int32} (hI : Inv2 i M) : wp_X7_text a M (fun r1 M1 => wp_X8_text a M1 (fun r2 M2 => r1 = r2 ∧ Inv2 (i + 1) M2)) := by
  obtain ⟨n, b, t, V, h, hS⟩ := hI.2.1
  have hn := hS.rv.1
  obtain ⟨⟨b1, b2, b3⟩, ⟨t1, t2, t3⟩, hz, hT, hW⟩ := hS.bt
  by_cases hc : 0 ≤ a.toInt ∧ a.toInt ≤ 1
  · obtain ⟨u, hu, rfl⟩ := nat_of (x := a) 1 hc.1 hc.2 (by decide)
    refine e_ctext (b := b) (T := M 23) b1 (by omega) b2 (fun _ _ => rfl) (fun e1 e2 M1 s1 k1 k5 hC => ?_) (fun hn0 M1 s1 k1 k5 => ?_)
    · have x1 : ∀ c, c ≠ 1 → (c < 2 + 5 * u ∨ 5 + 5 * u < c) → (c < 60 ∨ 66 < c) → M1 c = M c := fun c c1 c2 c3 => s1 c (by simp; omega)
      have e80 : M1 80 = M 80 := x1 80 (by omega) (by omega) (by omega)
      refine e_mtext (b := b) (T := M 23) b1 (by omega) (by rw [e80]; exact b3) (fun j hj => by rw [e80]; exact (hT j hj).symm) (fun _ _ M2 s2 g2 r2 => ⟨rfl, ?_⟩) (fun hn => absurd ⟨e1, e2⟩ hn)
      generalize (rdS (M 23) b u).2.2.1 = z at hC r2
      generalize (rdS (M 23) b u).2.2.2 = f at hC r2
      have hz50 : z ≤ 50 := hC.2.1
      rw [e80] at r2
      have y1 : ∀ c, c ≠ 79 → c ≠ 80 → c ≠ 84 → M2 c = M1 c := fun c c1 c2 c3 => s2 c (by simp [c1, c2, c3])
      have lo : ∀ k, k ≠ 3 → k ≠ 5 + u → (k < 144 + 50 * u ∨ 144 + 50 * u + z ≤ k) → M2 80 k = M 80 k := fun k k1 k2 k3 => by rw [r2]; exact rowT_lo k1 k2 k3
      have tq : TQ (2 + 5 * u) u (M2 80) M2 := by
        have h1 : TQ (2 + 5 * u) u (M2 80) M1 := hC.tq (by rw [r2]; exact rowT_5) (fun j hj => by rw [r2]; exact rowT_t (by omega) hj)
        exact h1.keep (y1 _ (by omega) (by omega) (by omega)) (y1 _ (by omega) (by omega) (by omega)) (y1 _ (by omega) (by omega) (by omega)) (y1 _ (by omega) (by omega) (by omega)) rfl (fun _ _ => rfl)
      have yo : ∀ c, c ≠ 1 → (c < 2 + 5 * u ∨ 5 + 5 * u < c) → (c < 60 ∨ 66 < c) → c ≠ 79 → c ≠ 80 → c ≠ 84 → M2 c = M c := fun c c1 c2 c3 c4 c5 c6 => by rw [y1 c c4 c5 c6, x1 c c1 c2 c3]
      have q0 : TQ 2 0 (M2 80) M2 := by
        rcases (by omega : u = 0 ∨ u = 1) with rfl | rfl
        · exact tq
        · exact hS.t0.keep (yo _ (by omega) (by omega) (by omega) (by omega) (by omega) (by omega)) (yo _ (by omega) (by omega) (by omega) (by omega) (by omega) (by omega)) (yo _ (by omega) (by omega) (by omega) (by omega) (by omega) (by omega)) (yo _ (by omega) (by omega) (by omega) (by omega) (by omega) (by omega)) (lo _ (by omega) (by omega) (by omega)) (fun j hj => lo _ (by omega) (by omega) (by omega))
      have q1 : TQ 7 1 (M2 80) M2 := by
        rcases (by omega : u = 0 ∨ u = 1) with rfl | rfl
        · exact hS.t1.keep (yo _ (by omega) (by omega) (by omega) (by omega) (by omega) (by omega)) (yo _ (by omega) (by omega) (by omega) (by omega) (by omega) (by omega)) (yo _ (by omega) (by omega) (by omega) (by omega) (by omega) (by omega)) (yo _ (by omega) (by omega) (by omega) (by omega) (by omega) (by omega)) (lo _ (by omega) (by omega) (by omega)) (fun j hj => lo _ (by omega) (by omega) (by omega))
        · exact tq
      have w1 : ∀ k, k ≠ 5 → M2 1 k = M 1 k := fun k hk => by rw [y1 1 (by omega) (by omega) (by omega)]; exact k1 k hk
      have r79 : ∀ k, k < 6 → M2 79 k = M 79 k := fun k hk => by rw [g2 k (Or.inl hk), x1 79 (by omega) (by omega) (by omega)]
      refine hI.rest (fun c hc => yo c (by simp at hc; omega) (by simp at hc; omega) (by simp at hc; omega) (by simp at hc; omega) (by simp at hc; omega) (by simp at hc; omega)) (r79 3 (by omega)) (r79 4 (by omega)) (by rw [g2 20 (by omega), x1 79 (by omega) (by omega) (by omega)]) (hS.re (b' := 0) (t' := t) (fun c c1 c2 => yo c (by omega) (by omega) (by omega) (by omega) (by omega) (by omega)) (fun k k1 k2 k3 k4 k5 k6 => lo k k3 (by omega) (by omega)) q0 q1 ⟨by omega, by rw [y1 1 (by omega) (by omega) (by omega)]; exact k5, ?_⟩ ⟨t1, by rw [w1 6 (by omega)]; exact t2, by rw [lo 4 (by omega) (by omega) (by omega)]; exact t3⟩ (by rw [w1 7 (by omega), lo 1 (by omega) (by omega) (by omega)]; exact hz) (fun j hj => absurd hj (Nat.not_lt_zero j)) (fun j hj => by rw [yo 24 (by omega) (by omega) (by omega) (by omega) (by omega) (by omega), lo _ (by omega) (by omega) (by omega)]; exact hW j hj))
      rw [r2]; unfold rowT; rw [if_pos rfl]; rfl
    · have x1 : ∀ c, c ≠ 1 → (c < 60 ∨ 66 < c) → M1 c = M c := fun c c1 c2 => s1 c (by simp; omega)
      have e80 : M1 80 = M 80 := x1 80 (by omega) (by omega)
      refine e_mtext (b := b) (T := M 23) b1 (by omega) (by rw [e80]; exact b3) (fun j hj => by rw [e80]; exact (hT j hj).symm) (fun e1 e2 => absurd ⟨e1, e2⟩ hn0) (fun _ M2 s2 g2 r2 => ⟨rfl, ?_⟩)
      rw [e80] at r2
      have y1 : ∀ c, c ≠ 79 → c ≠ 80 → c ≠ 84 → M2 c = M1 c := fun c c1 c2 c3 => s2 c (by simp [c1, c2, c3])
      have yo : ∀ c, c ≠ 1 → (c < 60 ∨ 66 < c) → c ≠ 79 → c ≠ 80 → c ≠ 84 → M2 c = M c := fun c c1 c2 c3 c4 c5 => by rw [y1 c c3 c4 c5, x1 c c1 c2]
      have lo : ∀ k, k ≠ 3 → M2 80 k = M 80 k := fun k hk => by rw [r2]; exact row3_o hk
      have w1 : ∀ k, k ≠ 5 → M2 1 k = M 1 k := fun k hk => by rw [y1 1 (by omega) (by omega) (by omega)]; exact k1 k hk
      have r79 : ∀ k, (k < 6 ∨ 11 < k) → M2 79 k = M 79 k := fun k hk => by rw [g2 k hk, x1 79 (by omega) (by omega)]
      have yt : ∀ c, 2 ≤ c → c ≤ 24 → M2 c = M c := fun c c1 c2 => yo c (by omega) (by omega) (by omega) (by omega) (by omega)
      refine hI.rest (fun c hc => yo c (by simp at hc; omega) (by simp at hc; omega) (by simp at hc; omega) (by simp at hc; omega) (by simp at hc; omega)) (r79 3 (by omega)) (r79 4 (by omega)) (r79 20 (by omega)) (hS.re (b' := 0) (t' := t) (fun c c1 c2 => yt c (by omega) (by omega)) (fun k k1 k2 k3 k4 k5 k6 => lo k k3) (hS.t0.keep (yt _ (by omega) (by omega)) (yt _ (by omega) (by omega)) (yt _ (by omega) (by omega)) (yt _ (by omega) (by omega)) (lo _ (by omega)) (fun j hj => lo _ (by omega))) (hS.t1.keep (yt _ (by omega) (by omega)) (yt _ (by omega) (by omega)) (yt _ (by omega) (by omega)) (yt _ (by omega) (by omega)) (lo _ (by omega)) (fun j hj => lo _ (by omega))) ⟨by omega, by rw [y1 1 (by omega) (by omega) (by omega)]; exact k5, by rw [r2]; rfl⟩ ⟨t1, by rw [w1 6 (by omega)]; exact t2, by rw [lo 4 (by omega)]; exact t3⟩ (by rw [w1 7 (by omega), lo 1 (by omega)]; exact hz) (fun j hj => absurd hj (Nat.not_lt_zero j)) (fun j hj => by rw [yt 24 (by omega) (by omega), lo _ (by omega)]; exact hW j hj))
  · unfold wp_X7_text
    refine w7n 0 1 (by decide) (by decide) (fun g1 g2 => absurd ⟨g1, g2⟩ hc) (fun _ => e7A (i := 1) (by omega) (by omega) (by decide) St.rf (fun M1 p1 => ?_))
    unfold wp_X8_text
    exact w8n 0 1 (by decide) (by decide) (fun g1 g2 => absurd ⟨g1, g2⟩ hc) (fun _ => e8A (i := 1) (by omega) (by omega) (by decide) St.rf (fun M2 p2 => ⟨rfl, hI.th p1.1 p2.1⟩))
end ZX
