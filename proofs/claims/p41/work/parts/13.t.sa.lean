/-- a whole (cells w ..) and a row r say the same numbers -/
def SA (w r n b t : Nat) (V : Nat → Nat) (h : Nat → Int32) (M : Mem) : Prop :=
  RG (w + 11) n h V M ∧ M (w + 11) 7 = nI (V 9) ∧ RR n h V (M r) ∧ RV n V ∧ V 0 ≤ 9999 ∧ HH n h ∧ TQ (w + 1) 0 (M r) M ∧ TQ (w + 6) 1 (M r) M ∧ (b ≤ 50 ∧ M w 5 = nI b ∧ M r 3 = nI b) ∧ (t ≤ 20 ∧ M w 6 = nI t ∧ M r 4 = nI t) ∧ M w 7 = M r 1 ∧ (∀ j : Nat, j < b → M (w + 22) j = M r (74 + j)) ∧ ∀ j : Nat, j < t → M (w + 23) j = M r (124 + j)
theorem SA.keep {w r n b t : Nat} {V : Nat → Nat} {h : Nat → Int32} {M M1 : Mem} (hS : SA w r n b t V h M) (hk : ∀ c, w ≤ c → c ≤ w + 23 → c ≠ w + 5 → c ≠ w + 10 → M1 c = M c) (hr : M1 r = M r) : SA w r n b t V h M1 := by
  obtain ⟨s1, s2, s3, s4, s5, s6, s7, s8, s9, s10, s11, s12, s13⟩ := hS
  have hn := s4.1
  have e0 := hk w (by omega) (by omega) (by omega) (by omega)
  refine ⟨s1.same hn (fun c c1 c2 => hk c (by omega) (by omega) (by omega) (by omega)), by rw [hk (w + 11) (by omega) (by omega) (by omega) (by omega)]; exact s2, by rw [hr]; exact s3, s4, s5, s6, ?_, ?_, by rw [e0, hr]; exact s9, by rw [e0, hr]; exact s10, by rw [e0, hr]; exact s11, fun j hj => by rw [hk (w + 22) (by omega) (by omega) (by omega) (by omega), hr]; exact s12 j hj, fun j hj => by rw [hk (w + 23) (by omega) (by omega) (by omega) (by omega), hr]; exact s13 j hj⟩
  · exact s7.keep (hk _ (by omega) (by omega) (by omega) (by omega)) (hk _ (by omega) (by omega) (by omega) (by omega)) (hk _ (by omega) (by omega) (by omega) (by omega)) (hk _ (by omega) (by omega) (by omega) (by omega)) (by rw [hr]) (fun j _ => by rw [hr])
  · exact s8.keep (hk _ (by omega) (by omega) (by omega) (by omega)) (hk _ (by omega) (by omega) (by omega) (by omega)) (hk _ (by omega) (by omega) (by omega) (by omega)) (hk _ (by omega) (by omega) (by omega) (by omega)) (by rw [hr]) (fun j _ => by rw [hr])
theorem TQ.tx {t w : Nat} {f : Nat → Int32} {M : Mem} (h : TQ t w f M) : TX t M := by
  rcases h.tc with e | ⟨z, z1, z2, e, hj⟩
  · exact ⟨0, by omega, e, fun j hj => absurd hj (Nat.not_lt_zero j)⟩
  · refine ⟨z, z2, e, fun j hjz => ?_⟩
    rcases hj j hjz with a | a | ⟨s, e1, e2, i1, i2, i3, i4, i5, i6⟩
    · exact Or.inl a
    · exact Or.inr (Or.inl a)
    · exact Or.inr (Or.inr ⟨⟨e1, by omega, i5⟩, ⟨e2, by omega, i6⟩⟩)
theorem SA.wk {w r n b t : Nat} {V : Nat → Nat} {h : Nat → Int32} {M : Mem} (hS : SA w r n b t V h M) : WK w n b t M := by
  obtain ⟨s1, s2, s3, s4, s5, s6, s7, s8, s9, s10, s11, s12, s13⟩ := hS
  refine ⟨s4.1, s9.1, s10.1, s1.1, s9.2.1, s10.2.1, fun q hq => ?_, s7.tx, s8.tx⟩
  obtain ⟨o1, o2, o3, o4, o5, o6, o7⟩ := s1.2.2.2.2.2 q hq
  obtain ⟨w1, w2, w3, w4, w5, w6⟩ := s4.2.2.2.2.2.2 q hq
  rw [show w + 13 + q = w + 11 + 2 + q by omega, o6, o1]
  refine ⟨?_, ⟨_, w1, rfl⟩⟩
  rcases (by omega : V (16 + 7 * q) = 0 ∨ V (16 + 7 * q) = 1) with e | e
  · rw [e]; exact Or.inl rfl
  · rw [e]; exact Or.inr rfl
theorem SA.ro {w r n b t : Nat} {V : Nat → Nat} {h : Nat → Int32} {M : Mem} (hS : SA w r n b t V h M) : RO n (M r) := by
  obtain ⟨s1, s2, s3, s4, s5, s6, s7, s8, s9, s10, s11, s12, s13⟩ := hS
  have hn := s4.1
  refine ⟨hn, s3.1, fun q hq => ?_, s7.to, s8.to⟩
  rw [s3.2.1 q hq]
  rcases s6 q hq with e | ⟨j, hj, e⟩
  · exact Or.inl (by rw [e]; decide)
  · exact Or.inr ⟨j, by omega, e⟩
theorem SA.rw2 {w r n b t : Nat} {V : Nat → Nat} {h : Nat → Int32} {M : Mem} (hS : SA w r n b t V h M) : RW2 w r n M := by
  obtain ⟨s1, s2, s3, s4, s5, s6, s7, s8, s9, s10, s11, s12, s13⟩ := hS
  refine ⟨?_, s9.2.1.trans s9.2.2.symm, s10.2.1.trans s10.2.2.symm, s11, fun q hq => ?_⟩
  · rw [s1.2.2.2.1, s3.2.2 0 (Or.inl rfl)]
  · obtain ⟨o1, o2, o3, o4, o5, o6, o7⟩ := s1.2.2.2.2.2 q hq
    have g0 : M r (11 + 7 * q) = nI (V (11 + 7 * q)) := s3.2.2 _ (NB.one 0 hq (by omega) (by omega))
    have g1 : M r (12 + 7 * q) = nI (V (12 + 7 * q)) := s3.2.2 _ (NB.one 1 hq (by omega) (by omega))
    have g2 : M r (13 + 7 * q) = nI (V (13 + 7 * q)) := s3.2.2 _ (NB.one 2 hq (by omega) (by omega))
    rw [show w + 13 + q = w + 11 + 2 + q by omega, o1, o2, o3, g0, g1, g2]
    exact ⟨rfl, rfl, rfl⟩
theorem SA.nw {n b t : Nat} {V : Nat → Nat} {h : Nat → Int32} {M : Mem} (hS : SA 1 80 n b t V h M) : NW n b t M := ⟨hS.wk, hS.ro, hS.rw2⟩
def IM2 (i : Nat) (M : Mem) : Prop := ∃ m n b t : Nat, m ≤ i ∧ M 0 7 = nI m ∧ M 79 4 = nI m ∧ (m = 0 → M 79 3 = 0) ∧ (m ≠ 0 → M 79 3 = 1) ∧ WK 25 n b t M ∧ (m ≠ 0 → ∃ (V : Nat → Nat) (h : Nat → Int32), SA 25 81 n b t V h M)
theorem IM2.im {i : Nat} {M : Mem} (h : IM2 i M) : IM i M := by
  obtain ⟨m, n, b, t, g1, g2, g3, g4, g5, g6, g7⟩ := h
  exact ⟨m, n, b, t, g1, g2, g3, g4, g5, g6, fun e => by obtain ⟨V, h, hs⟩ := g7 e; exact ⟨hs.ro, hs.rw2⟩⟩
theorem IM2.keep {i : Nat} {M M1 : Mem} (h : IM2 i M) (h0 : M1 0 = M 0) (h3 : M1 79 3 = M 79 3) (h4 : M1 79 4 = M 79 4) (hk : ∀ c, 25 ≤ c → c ≤ 48 → c ≠ 30 → c ≠ 35 → M1 c = M c) (h81 : M1 81 = M 81) : IM2 (i + 1) M1 := by
  obtain ⟨m, n, b, t, g1, g2, g3, g4, g5, g6, g7⟩ := h
  exact ⟨m, n, b, t, by omega, by rw [h0]; exact g2, h4.trans g3, fun e => h3.trans (g4 e), fun e => h3.trans (g5 e), g6.keep (fun c c1 c2 c3 c4 => hk c c1 (by omega) (by omega) (by omega)), fun e => by
    obtain ⟨V, h, hs⟩ := g7 e
    exact ⟨V, h, hs.keep (fun c c1 c2 c3 c4 => hk c c1 (by omega) (by omega) (by omega)) h81⟩⟩
/-- what stays true, with all numbers -/
def Inv2 (i : Nat) (M : Mem) : Prop := KA M ∧ (∃ (n b t : Nat) (V : Nat → Nat) (h : Nat → Int32), SA 1 80 n b t V h M) ∧ SH M ∧ VR M ∧ IM2 i M
theorem Inv2.inv {i : Nat} {M : Mem} (h : Inv2 i M) : Inv i M := by
  obtain ⟨h1, ⟨n, b, t, V, h', hs⟩, h3, h4, h5⟩ := h
  exact ⟨h1, ⟨n, b, t, hs.nw⟩, h3, h4, h5.im⟩
/-- the rest stays -/
theorem Inv2.rest {i : Nat} {M M2 : Mem} (hI : Inv2 i M) (hs : St (fun b => (decide (1 ≤ b) && decide (b ≤ 24)) || (decide (49 ≤ b) && decide (b ≤ 66)) || b == 78 || b == 79 || b == 80 || (decide (82 ≤ b) && decide (b ≤ 86)) || b == 90) M M2) (h3 : M2 79 3 = M 79 3) (h4 : M2 79 4 = M 79 4) (h20 : M2 79 20 = M 79 20) {n b t : Nat} {V : Nat → Nat} {h : Nat → Int32} (hN : SA 1 80 n b t V h M2) : Inv2 (i + 1) M2 :=
  ⟨hI.1.keep (hs _ rfl), ⟨n, b, t, V, h, hN⟩, hI.2.2.1.keep (fun c c1 c2 => hs _ (by simp <;> omega)) (hs _ rfl) (hs _ rfl) (hs _ rfl), hI.2.2.2.1.keep (hs _ rfl) (hs _ rfl) (hs _ rfl) h20, hI.2.2.2.2.keep (hs _ rfl) h3 h4 (fun c c1 c2 c3 c4 => hs _ (by simp <;> omega)) (hs _ rfl)⟩
theorem Inv2.th {i : Nat} {M M1 M2 : Mem} (hI : Inv2 i M) (h1 : St SX M M1) (h2 : St SMx M1 M2) : Inv2 (i + 1) M2 := by
  obtain ⟨n, b, t, V, h, hs⟩ := hI.2.1
  have e : ∀ c, SX c = false → SMx c = false → M2 c = M c := fun c c1 c2 => (h2 c c2).trans (h1 c c1)
  refine hI.rest (fun c hc => e c (by simp at hc ⊢; omega) (by simp at hc ⊢; omega)) (by rw [e 79 rfl rfl]) (by rw [e 79 rfl rfl]) (by rw [e 79 rfl rfl]) (hs.keep (fun c c1 c2 c3 c4 => e c (by simp; omega) (by simp; omega)) (e 80 rfl rfl))
/-- an answer's ERROR counted -/
def bmp (e : Nat) (f : Nat → Int32) : Nat → Int32 := if e = 0 then f else upd f e (f e + 1)
abbrev SY (b : Nat) : Bool := b == 6 || b == 11 || (decide (49 ≤ b) && decide (b ≤ 59))
abbrev SMz (b : Nat) : Bool := b == 82 || b == 85 || b == 86
def PC (e : Nat) (M M1 : Mem) : Prop := St SX M M1 ∧ M1 78 = bmp e (M 78)
def PM (e : Nat) (M M1 : Mem) : Prop := St SMx M M1 ∧ M1 83 = bmp e (M 83)
theorem PC.of {M M1 : Mem} (h : St SY M M1) : PC 0 M M1 := ⟨h.w (by simp <;> omega), h 78 rfl⟩
theorem PM.of {M M1 : Mem} (h : St SMz M M1) : PM 0 M M1 := ⟨h.w (by simp <;> omega), h 83 rfl⟩
theorem PC.er {M M1 : Mem} (h : St SY M M1) (i : Nat) (hi : i ≠ 0) : PC i M (up M1 78 i (M1 78 i + 1)) := ⟨(h.w (by simp <;> omega)).up rfl, by rw [up_upd, h 78 rfl]; unfold bmp; rw [if_neg hi]⟩
theorem PM.er {M M1 : Mem} (h : St SMz M M1) (i : Nat) (hi : i ≠ 0) : PM i M (up M1 83 i (M1 83 i + 1)) := ⟨(h.w (by simp <;> omega)).up rfl, by rw [up_upd, h 83 rfl]; unfold bmp; rw [if_neg hi]⟩
/-- an answer and the ERROR that it counts -/
abbrev Ans := Int32 × Nat
def erA (e : Nat) : Ans := (-1000000000 - nI e, e)
theorem e7A {i : Nat} {v : Int32} {M0 M : Mem} {K : Int32 → Mem → Prop} (hi : i < 6) (h0 : i ≠ 0) (hv : v = -1000000000 - nI i) (hs : St SY M0 M) (hk : ∀ M1, PC i M0 M1 → K (erA i).1 M1) : wp_X7_refuse v M K := by
  subst hv
  refine e7 i hi ?_ (hk _ (PC.er hs i h0))
  rcases (by omega : i = 1 ∨ i = 2 ∨ i = 3 ∨ i = 4 ∨ i = 5) with rfl | rfl | rfl | rfl | rfl <;> decide
theorem e8A {i : Nat} {v : Int32} {M0 M : Mem} {K : Int32 → Mem → Prop} (hi : i < 6) (h0 : i ≠ 0) (hv : v = -1000000000 - nI i) (hs : St SMz M0 M) (hk : ∀ M1, PM i M0 M1 → K (erA i).1 M1) : wp_X8_errs v M K := by
  subst hv
  refine e8 i hi ?_ (hk _ (PM.er hs i h0))
  rcases (by omega : i = 1 ∨ i = 2 ∨ i = 3 ∨ i = 4 ∨ i = 5) with rfl | rfl | rfl | rfl | rfl <;> decide
/-- a call that thinks alone: class and model answer A -/
theorem z_of {i : Nat} {M : Mem} {A : Ans} {W7 : Mem → (Int32 → Mem → Prop) → Prop} {W8 : Mem → (Int32 → Mem → Prop) → Prop} (hI : Inv2 i M) (h7 : ∀ K : Int32 → Mem → Prop, (∀ M1, PC A.2 M M1 → K A.1 M1) → W7 M K) (h8 : ∀ M1 : Mem, St SX M M1 → ∀ K : Int32 → Mem → Prop, (∀ M2, PM A.2 M1 M2 → K A.1 M2) → W8 M1 K) : W7 M (fun r1 M1 => W8 M1 (fun r2 M2 => r1 = r2 ∧ Inv2 (i + 1) M2)) :=
  h7 _ (fun M1 p1 => h8 M1 p1.1 _ (fun M2 p2 => ⟨rfl, hI.th p1.1 p2.1⟩))
