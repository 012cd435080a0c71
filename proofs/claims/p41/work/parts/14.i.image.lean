section ZM
variable {i : Nat} {M : Mem}
/-- what a whole's copy is, exactly -/
def CPY (w o n b t : Nat) (M M1 : Mem) : Prop := (∀ k, 3 ≤ k → k ≤ 8 → M1 (w + 11) k = M (o + 11) k) ∧ (∀ q : Nat, q < n → ∀ k, k < 7 → M1 (w + 13 + q) k = M (o + 13 + q) k) ∧ (∀ k, 5 ≤ k → k ≤ 7 → M1 w k = M o k) ∧ (∀ u, (u = 1 ∨ u = 6) → M1 (w + u) 4 = M (o + u) 4 ∧ M1 (w + u) 5 = M (o + u) 5 ∧ ∀ z : Nat, M (o + u) 5 = nI z → z ≤ 50 → ∀ j, j < z → M1 (w + u + 1) j = M (o + u + 1) j ∧ M1 (w + u + 2) j = M (o + u + 2) j ∧ M1 (w + u + 3) j = M (o + u + 3) j) ∧ (∀ j, j < b → M1 (w + 22) j = M (o + 22) j) ∧ ∀ j, j < t → M1 (w + 23) j = M (o + 23) j
theorem e_cpw {w o n b t : Nat} {K : Mem → Prop} (hw : WF w) (ho : WF o) (hd : w + 24 ≤ o ∨ o + 24 ≤ w) (h : WK o n b t M)
    (hk : ∀ M1, St (fun c => decide (w ≤ c) && decide (c ≤ w + 23)) M M1 → CPY w o n b t M M1 → K M1) : wp_X6_copyFrom w o M K := by
  obtain ⟨a0, a1, a2, a3, a4, a5, a6, a7, a8, a9⟩ := hw
  obtain ⟨c0, c1, c2, c3, c4, c5, c6, c7, c8, c9⟩ := ho
  obtain ⟨h1, h2, h3, h4, h5, h6, h7, ⟨z0, y0, e0, -⟩, ⟨z1, y1, e1, -⟩⟩ := h
  unfold wp_X6_copyFrom
  simp only [a0, a1, a2, a3, a4, a5, a6, c0, c1, c2, c3, c4, c5, c6]
  refine e_copy a7 c7 (by omega) y0 e0 (fun M1 s1 p1 p2 p3 => ?_)
  have k1 : ∀ c, (c < w + 1 ∨ w + 4 < c) → M1 c = M c := fun c hc => s1 c (by simp; omega)
  refine e_copy a8 c8 (by omega) y1 (by rw [k1 _ (by omega)]; exact e1) (fun M2 s2 q1 q2 q3 => ?_)
  have k2 : ∀ c, (c < w + 6 ∨ w + 9 < c) → M2 c = M1 c := fun c hc => s2 c (by simp; omega)
  have kk : ∀ c, (c < w ∨ w + 10 < c) → M2 c = M c := fun c hc => by rw [k2 c (by omega), k1 c (by omega)]
  refine cp_ground a9 c9 (by omega) h1 (by rw [kk _ (by omega)]; exact h4) (fun q hq => by rw [show o + 11 + 2 + q = o + 13 + q by omega, kk _ (by omega)]; exact (h7 q hq).1) (fun M3 s3 g3 f3 => ?_)
  have k3 : ∀ c, (c < w + 11 ∨ w + 21 < c) → M3 c = M2 c := fun c hc => s3 c (by simp; omega)
  have k4 : ∀ c, (c < w ∨ w + 21 < c) → M3 c = M c := fun c hc => by rw [k3 c (by omega), kk c (by omega)]
  rw [k4 o (by omega), h5, nI_clamp (by omega)]
  refine ⟨by decide, by decide, nI_pos (by omega), by simp; omega, by simp; omega, ?_⟩
  rintro _ rfl
  simp only [upA_o o (show o ≠ w + 22 by omega), k4 o (by omega), h6, nI_clamp (show t < 2 ^ 31 by omega)]
  refine ⟨by decide, by decide, nI_pos (by omega), by simp; omega, by simp; omega, ?_⟩
  rintro _ rfl
  simp only [up_o o (show o ≠ w by omega), upA_o o (show o ≠ w + 22 by omega), upA_o o (show o ≠ w + 23 by omega), k4 o (by omega)]
  have kz : ∀ (F G : Nat → Int32) (x y z : Int32) c, c ≠ w → c < w + 22 → (up (up (up (upA (upA M3 (w + 22) F) (w + 23) G) w 5 x) w 6 y) w 7 z) c = M3 c := fun F G x y z c hc hc2 => by
    rw [up_o _ hc, up_o _ hc, up_o _ hc, upA_o _ (by omega), upA_o _ (by omega)]
  have hc0 : ∀ (f g : Nat → Int32) (m j : Nat), j < m → va_cpy f g (0 : Int32).toNatClampNeg (0 : Int32).toNatClampNeg m j = f j := fun f g m j hj => by
    rw [pk_cpy_in (by simp) (by simp; omega)]; simp
  rintro _ rfl
  refine hk _ ?_ ⟨fun k l1 l2 => ?_, fun q hq k l1 => ?_, fun k l1 l2 => ?_, fun u hu => ?_, fun j hj => ?_, fun j hj => ?_⟩
  · exact ((((((s1.w (by simp <;> omega)).tr (s2.w (by simp <;> omega))).tr (s3.w (by simp <;> omega))).upA (by simp)).upA (by simp)).up (by simp)).up (by simp) |>.up (by simp)
  · rw [kz _ _ _ _ _ _ (by omega) (by omega), g3 k l1 l2, kk _ (by omega)]
  · rw [kz _ _ _ _ _ _ (by omega) (by omega), show w + 13 + q = w + 11 + 2 + q by omega, f3 q hq k l1, show o + 11 + 2 + q = o + 13 + q by omega, kk _ (by omega)]
  · rcases (by omega : k = 5 ∨ k = 6 ∨ k = 7) with rfl | rfl | rfl
    · rw [up_slot _ (by omega), up_slot _ (by omega), up_same]
    · rw [up_slot _ (by omega), up_same]
    · rw [up_same]
  · rcases hu with rfl | rfl
    · have kt : ∀ (F G : Nat → Int32) (x y z : Int32) c, w + 1 ≤ c → c ≤ w + 4 → (up (up (up (upA (upA M3 (w + 22) F) (w + 23) G) w 5 x) w 6 y) w 7 z) c = M1 c := fun F G x y z c l1 l2 => by
        rw [kz _ _ _ _ _ _ (by omega) (by omega), k3 _ (by omega), k2 _ (by omega)]
      refine ⟨by rw [kt _ _ _ _ _ _ (by omega) (by omega)]; exact p1, by rw [kt _ _ _ _ _ _ (by omega) (by omega), p2, e0], fun z ez zl j hj => ?_⟩
      have : z = z0 := (nI_eq (by omega) (by omega)).mp (ez.symm.trans e0)
      subst this
      rw [kt _ _ _ _ _ _ (by omega) (by omega), kt _ _ _ _ _ _ (by omega) (by omega), kt _ _ _ _ _ _ (by omega) (by omega)]
      exact p3 j hj
    · have kt : ∀ (F G : Nat → Int32) (x y z : Int32) c, w + 6 ≤ c → c ≤ w + 9 → (up (up (up (upA (upA M3 (w + 22) F) (w + 23) G) w 5 x) w 6 y) w 7 z) c = M2 c := fun F G x y z c l1 l2 => by
        rw [kz _ _ _ _ _ _ (by omega) (by omega), k3 _ (by omega)]
      refine ⟨by rw [kt _ _ _ _ _ _ (by omega) (by omega), q1, k1 _ (by omega)], by rw [kt _ _ _ _ _ _ (by omega) (by omega), q2, e1], fun z ez zl j hj => ?_⟩
      have : z = z1 := (nI_eq (by omega) (by omega)).mp (ez.symm.trans e1)
      subst this
      have q4 := q3 j hj
      rw [k1 (o + 6 + 1) (by omega), k1 (o + 6 + 2) (by omega), k1 (o + 6 + 3) (by omega)] at q4
      rw [kt _ _ _ _ _ _ (by omega) (by omega), kt _ _ _ _ _ _ (by omega) (by omega), kt _ _ _ _ _ _ (by omega) (by omega)]
      exact q4
  · rw [up_o _ (by omega), up_o _ (by omega), up_o _ (by omega), upA_o _ (by omega), upA_same, hc0 _ _ _ _ hj, k4 _ (by omega)]
  · rw [up_o _ (by omega), up_o _ (by omega), up_o _ (by omega), upA_same, hc0 _ _ _ _ hj, upA_o _ (by omega), k4 _ (by omega)]
theorem TQ.copy {t t2 w : Nat} {f f2 : Nat → Int32} {M2 : Mem} (h : TQ t w f M) (hw : w < 2) (e4 : M2 t2 4 = M t 4) (e5 : M2 t2 5 = M t 5) (en : ∀ z : Nat, M t 5 = nI z → z ≤ 50 → ∀ j, j < z → M2 (t2 + 1) j = M (t + 1) j ∧ M2 (t2 + 2) j = M (t + 2) j ∧ M2 (t2 + 3) j = M (t + 3) j) (hf : ∀ k, k < 244 → f2 k = f k) : TQ t2 w f2 M2 := by
  obtain ⟨h0, h1⟩ := h
  refine ⟨e4.trans h0, ?_⟩
  rcases h1 with ⟨a, b⟩ | ⟨z, g, σ, z1, z2, ez, fz, hq, hg⟩
  · exact Or.inl ⟨e5.trans a, (hf _ (by omega)).trans b⟩
  · refine Or.inr ⟨z, g, σ, z1, z2, e5.trans ez, (hf _ (by omega)).trans fz, ⟨hq.1, fun k hk => ?_⟩, hg⟩
    have := hq.2 k hk
    obtain ⟨a1, a2, a3⟩ := en z ez z2 k hk
    show SQ (M2 (t2 + 1) k) (M2 (t2 + 2) k) (M2 (t2 + 3) k) (f2 (144 + 50 * w + k)) k _ _ _ _
    rw [a1, a2, a3, hf (144 + 50 * w + k) (by omega)]
    exact this
theorem SA.copy {w o r r2 n b t : Nat} {V : Nat → Nat} {h : Nat → Int32} {M1 M2 : Mem} (hS : SA o r n b t V h M) (hC : CPY w o n b t M M1) (ex : ∀ c, w ≤ c → c ≤ w + 23 → M2 c = M1 c) (hr : ∀ k, k < 244 → M2 r2 k = M r k) : SA w r2 n b t V h M2 := by
  obtain ⟨s1, s2, s3, s4, s5, s6, s7, s8, s9, s10, s11, s12, s13⟩ := hS
  obtain ⟨c1, c2, c3, c4, c5, c6⟩ := hC
  have hn := s4.1
  obtain ⟨r1, r2', r3, r4, r5, r6⟩ := s1
  have eg : ∀ k, 3 ≤ k → k ≤ 8 → M2 (w + 11) k = M (o + 11) k := fun k l1 l2 => by rw [ex _ (by omega) (by omega)]; exact c1 k l1 l2
  have eo : ∀ k, 5 ≤ k → k ≤ 7 → M2 w k = M o k := fun k l1 l2 => by rw [ex _ (by omega) (by omega)]; exact c3 k l1 l2
  refine ⟨⟨by rw [eg 3 (by omega) (by omega)]; exact r1, by rw [eg 4 (by omega) (by omega)]; exact r2', by rw [eg 5 (by omega) (by omega)]; exact r3, by rw [eg 6 (by omega) (by omega)]; exact r4, by rw [eg 8 (by omega) (by omega)]; exact r5, fun q hq => ?_⟩, by rw [eg 7 (by omega) (by omega)]; exact s2, ⟨by rw [hr 2 (by omega)]; exact s3.1, fun q hq => by rw [hr _ (by omega)]; exact s3.2.1 q hq, fun k hk => ?_⟩, s4, s5, s6, ?_, ?_, ⟨s9.1, by rw [eo 5 (by omega) (by omega)]; exact s9.2.1, by rw [hr 3 (by omega)]; exact s9.2.2⟩, ⟨s10.1, by rw [eo 6 (by omega) (by omega)]; exact s10.2.1, by rw [hr 4 (by omega)]; exact s10.2.2⟩, by rw [eo 7 (by omega) (by omega), hr 1 (by omega)]; exact s11, fun j hj => ?_, fun j hj => ?_⟩
  · have := r6 q hq
    have f : ∀ k, k < 7 → M2 (w + 11 + 2 + q) k = M (o + 11 + 2 + q) k := fun k hk => by
      rw [show w + 11 + 2 + q = w + 13 + q by omega, show o + 11 + 2 + q = o + 13 + q by omega, ex _ (by omega) (by omega)]; exact c2 q hq k hk
    rw [f 0 (by omega), f 1 (by omega), f 2 (by omega), f 3 (by omega), f 4 (by omega), f 5 (by omega), f 6 (by omega)]
    exact this
  · have : k < 244 := by rcases hk with h | h | ⟨q, x, q1, q2, q3, q4⟩ <;> omega
    rw [hr k this]; exact s3.2.2 k hk
  · obtain ⟨d1, d2, d3⟩ := c4 1 (Or.inl rfl)
    exact s7.copy (by omega) (by rw [ex _ (by omega) (by omega)]; exact d1) (by rw [ex _ (by omega) (by omega)]; exact d2) (fun z ez zl j hj => by rw [ex (w + 1 + 1) (by omega) (by omega), ex (w + 1 + 2) (by omega) (by omega), ex (w + 1 + 3) (by omega) (by omega)]; exact d3 z ez zl j hj) hr
  · obtain ⟨d1, d2, d3⟩ := c4 6 (Or.inr rfl)
    exact s8.copy (by omega) (by rw [ex _ (by omega) (by omega)]; exact d1) (by rw [ex _ (by omega) (by omega)]; exact d2) (fun z ez zl j hj => by rw [ex (w + 6 + 1) (by omega) (by omega), ex (w + 6 + 2) (by omega) (by omega), ex (w + 6 + 3) (by omega) (by omega)]; exact d3 z ez zl j hj) hr
  · have := s9.1
    rw [ex _ (by omega) (by omega), c5 j hj, hr _ (by omega)]; exact s12 j hj
  · have := s10.1
    rw [ex _ (by omega) (by omega), c6 j hj, hr _ (by omega)]; exact s13 j hj
theorem z2_image (hI : Inv2 i M) (hi : i < 2 ^ 29) : wp_X7_image M (fun r1 M1 => wp_X8_image M1 (fun r2 M2 => r1 = r2 ∧ Inv2 (i + 1) M2)) := by
  obtain ⟨n, b, t, V, h, hS⟩ := hI.2.1
  obtain ⟨m, n0, b0, t0, i1, i2, i3, i4, i5, i6, i7⟩ := hI.2.2.2.2
  unfold wp_X7_image
  refine e_cpw WF25 WF1 (by omega) hS.wk (fun M1 s1 hC => ?_)
  have k1 : ∀ c, (c < 25 ∨ 48 < c) → M1 c = M c := fun c hc => s1 c (by simp; omega)
  rw [up_same, k1 0 (by omega), i2, nI_1]
  unfold wp_X8_image
  refine m_move rfl rfl (by decide) (fun M2 s2 r1 r2 => ?_)
  have k2 : ∀ c, c ≠ 81 → M2 c = (up M1 0 7 (nI (m + 1))) c := fun c hc => s2 c (by simp [hc])
  have e79 : ∀ k, M2 79 k = M 79 k := fun k => by rw [k2 _ (by omega), up_o _ (by omega), k1 _ (by omega)]
  have e4 : (up M2 79 3 1) 79 4 = nI m := by rw [up_slot _ (by omega), e79]; exact i3
  rw [up_same, e4, nI_1]
  have ke : ∀ c, c ≠ 0 → c ≠ 79 → c ≠ 81 → (c < 25 ∨ 48 < c) → (up (up M2 79 3 1) 79 4 (nI (m + 1))) c = M c := fun c c1 c2 c3 c4 => by
    rw [up_o _ c2, up_o _ c2, k2 c c3, up_o _ c1, k1 c c4]
  have kw : ∀ c, 25 ≤ c → c ≤ 25 + 23 → (up (up M2 79 3 1) 79 4 (nI (m + 1))) c = M1 c := fun c c1 c2 => by
    rw [up_o _ (by omega), up_o _ (by omega), k2 c (by omega), up_o _ (by omega)]
  have k81 : ∀ k, k < 244 → (up (up M2 79 3 1) 79 4 (nI (m + 1))) 81 k = M 80 k := fun k hk => by
    rw [up_cell (by omega), up_cell (by omega), r1 k hk, up_o _ (by omega), k1 80 (by omega)]
  have hS2 := hS.copy (w := 25) (r2 := 81) hC kw k81
  refine ⟨rfl, hI.1.keep (ke _ (by omega) (by omega) (by omega) (by omega)), ⟨n, b, t, V, h, hS.keep (fun c c1 c2 _ _ => ke c (by omega) (by omega) (by omega) (by omega)) (ke _ (by omega) (by omega) (by omega) (by omega))⟩, hI.2.2.1.keep (fun c c1 c2 => ke c (by omega) (by omega) (by omega) (by omega)) (ke _ (by omega) (by omega) (by omega) (by omega)) (ke _ (by omega) (by omega) (by omega) (by omega)) (ke _ (by omega) (by omega) (by omega) (by omega)), hI.2.2.2.1.keep (ke _ (by omega) (by omega) (by omega) (by omega)) (ke _ (by omega) (by omega) (by omega) (by omega)) (ke _ (by omega) (by omega) (by omega) (by omega)) (by rw [up_slot _ (by omega), up_slot _ (by omega), e79]), m + 1, n, b, t, by omega, ?_, up_same, fun e => by omega, fun _ => ?_, hS2.wk, fun _ => ⟨V, h, hS2⟩⟩
  · rw [up_cell (by omega), up_cell (by omega), k2 0 (by omega), up_same]
  · rw [up_slot _ (by omega), up_same]
theorem z2_restore (hI : Inv2 i M) (hi : i < 2 ^ 29) : wp_X7_restore M (fun r1 M1 => wp_X8_restore M1 (fun r2 M2 => r1 = r2 ∧ Inv2 (i + 1) M2)) := by
  obtain ⟨m, n0, b0, t0, i1, i2, i3, i4, i5, i6, i7⟩ := hI.2.2.2.2
  unfold wp_X7_restore
  rw [i2]
  refine ⟨fun q => ?_, fun q => e7A (i := 2) (by omega) (by omega) (by decide) St.rf (fun M1 p1 => ?_)⟩
  · have hm : m ≠ 0 := fun e => q (by rw [e]; rfl)
    obtain ⟨V, h, hS⟩ := i7 hm
    refine e_cpw WF1 WF25 (by omega) i6 (fun M1 s1 hC => ?_)
    have k1 : ∀ c, (c < 1 ∨ 24 < c) → M1 c = M c := fun c hc => s1 c (by simp; omega)
    unfold wp_X8_restore
    have e3 : M1 79 3 = 1 := by rw [k1 79 (by omega)]; exact i5 hm
    refine ⟨fun _ => ?_, fun g => absurd (e3.symm.trans g) (by decide)⟩
    refine m_move rfl rfl (by decide) (fun M2 s2 r1 r2 => ?_)
    have k2 : ∀ c, c ≠ 80 → M2 c = M1 c := fun c hc => s2 c (by simp [hc])
    have ke : ∀ c, c ≠ 80 → (c < 1 ∨ 24 < c) → M2 c = M c := fun c c1 c2 => by rw [k2 c c1, k1 c c2]
    have k80 : ∀ k, k < 244 → M2 80 k = M 81 k := fun k hk => by rw [r1 k hk, k1 81 (by omega)]
    refine ⟨?_, hI.rest (fun c hc => ke c (by simp at hc; omega) (by simp at hc; omega)) (by rw [ke 79 (by omega) (by omega)]) (by rw [ke 79 (by omega) (by omega)]) (by rw [ke 79 (by omega) (by omega)]) (hS.copy (w := 1) (r2 := 80) hC (fun c c1 c2 => k2 c (by omega)) k80)⟩
    have : M1 (1 + 11) 6 = M (25 + 11) 6 := hC.1 6 (by omega) (by omega)
    rw [k80 0 (by omega), hS.2.2.1.2.2 0 (Or.inl rfl), ← hS.1.2.2.2.1]; exact this
  · have hm : m = 0 := (nI_eq (a := m) (b := 0) (by omega) (by omega)).mp q
    unfold wp_X8_restore
    have e3 : M1 79 3 = 0 := by rw [p1.1 79 rfl]; exact i4 hm
    exact ⟨fun g => absurd e3 g, fun _ => e8A (i := 2) (by omega) (by omega) (by decide) St.rf (fun M2 p2 => ⟨rfl, hI.th p1.1 p2.1⟩)⟩
end ZM
