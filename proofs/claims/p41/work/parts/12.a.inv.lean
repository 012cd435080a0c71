/-- a whole's places -/
def WF (w : Nat) : Prop := rf w 0 = w + 1 ∧ rf w 1 = w + 6 ∧ rf w 2 = w + 11 ∧ rf w 3 = w + 22 ∧ rf w 4 = w + 23 ∧ ln (w + 22) = 50 ∧ ln (w + 23) = 20 ∧ TF (w + 1) ∧ TF (w + 6) ∧ GO (w + 11)
theorem WF1 : WF 1 := ⟨rfl, rfl, rfl, rfl, rfl, rfl, rfl, TF2, TF7, GO12⟩
theorem WF25 : WF 25 := ⟨rfl, rfl, rfl, rfl, rfl, rfl, rfl, TF26, TF31, GO36⟩
/-- a whole in order -/
def WK (w n b t : Nat) (M : Mem) : Prop := n ≤ 9 ∧ b ≤ 50 ∧ t ≤ 20 ∧ M (w + 11) 3 = nI n ∧ M w 5 = nI b ∧ M w 6 = nI t ∧ (∀ q : Nat, q < n → BoolOK (M (w + 13 + q) 6) ∧ KindOK (M (w + 13 + q) 0)) ∧ TX (w + 1) M ∧ TX (w + 6) M
theorem WK.keep {w n b t : Nat} {M M1 : Mem} (h : WK w n b t M) (hk : ∀ c, w ≤ c → c ≤ w + 21 → c ≠ w + 5 → c ≠ w + 10 → M1 c = M c) : WK w n b t M1 := by
  obtain ⟨h1, h2, h3, h4, h5, h6, h7, h8, h9⟩ := h
  refine ⟨h1, h2, h3, by rw [hk _ (by omega) (by omega) (by omega) (by omega)]; exact h4, by rw [hk _ (by omega) (by omega) (by omega) (by omega)]; exact h5, by rw [hk _ (by omega) (by omega) (by omega) (by omega)]; exact h6, fun q hq => by rw [hk _ (by omega) (by omega) (by omega) (by omega)]; exact h7 q hq, ?_, ?_⟩
  · exact h8.keep (hk _ (by omega) (by omega) (by omega) (by omega)) (hk _ (by omega) (by omega) (by omega) (by omega)) (hk _ (by omega) (by omega) (by omega) (by omega)) (hk _ (by omega) (by omega) (by omega) (by omega))
  · exact h9.keep (hk _ (by omega) (by omega) (by omega) (by omega)) (hk _ (by omega) (by omega) (by omega) (by omega)) (hk _ (by omega) (by omega) (by omega) (by omega)) (hk _ (by omega) (by omega) (by omega) (by omega))
theorem WK.cn {n b t : Nat} {M : Mem} (h : WK 1 n b t M) : CN n M := ⟨h.1, h.2.2.2.1, fun q hq => (h.2.2.2.2.2.2.1 q hq).1, h.2.2.2.2.2.2.2.1, h.2.2.2.2.2.2.2.2⟩
/-- a whole and a row say the same -/
def RW2 (w r n : Nat) (M : Mem) : Prop := M (w + 11) 6 = M r 0 ∧ M w 5 = M r 3 ∧ M w 6 = M r 4 ∧ M w 7 = M r 1 ∧ ∀ q : Nat, q < n → M (w + 13 + q) 0 = M r (11 + 7 * q) ∧ M (w + 13 + q) 1 = M r (12 + 7 * q) ∧ M (w + 13 + q) 2 = M r (13 + 7 * q)
theorem RW2.keep {w r n : Nat} {M M1 : Mem} (h : RW2 w r n M) (hn : n ≤ 9) (hk : ∀ c, w ≤ c → c ≤ w + 21 → c ≠ w + 5 → c ≠ w + 10 → M1 c = M c) (hr : M1 r = M r) : RW2 w r n M1 := by
  unfold RW2
  rw [hk (w + 11) (by omega) (by omega) (by omega) (by omega), hk w (by omega) (by omega) (by omega) (by omega), hr]
  exact ⟨h.1, h.2.1, h.2.2.1, h.2.2.2.1, fun q hq => by rw [hk (w + 13 + q) (by omega) (by omega) (by omega) (by omega)]; exact h.2.2.2.2 q hq⟩
def SH (M : Mem) : Prop := ∀ j : Nat, j < 4 → ∃ z : Nat, z ≤ 40 ∧ M (70 + 2 * j) 2 = nI z ∧ M 88 j = nI z ∧ M (70 + 2 * j) 1 = M 87 j ∧ ∀ k, k < 40 → M (71 + 2 * j) k = M 89 (40 * j + k)
theorem SH.keep {M M1 : Mem} (h : SH M) (hk : ∀ c, 70 ≤ c → c ≤ 77 → M1 c = M c) (h7 : M1 87 = M 87) (h8 : M1 88 = M 88) (h9 : M1 89 = M 89) : SH M1 := fun j hj => by
  rw [hk (70 + 2 * j) (by omega) (by omega), hk (71 + 2 * j) (by omega) (by omega), h7, h8, h9]; exact h j hj
theorem SH.c {M : Mem} (h : SH M) : SHc M := fun j hj => by obtain ⟨z, hz, e, -⟩ := h j hj; exact ⟨z, hz, e⟩
theorem SH.m {M : Mem} (h : SH M) : SMc M := fun j hj => by obtain ⟨z, hz, -, e, -⟩ := h j hj; exact ⟨z, hz, e⟩
def VR (M : Mem) : Prop := ∃ z : Nat, z ≤ 40 ∧ M 67 1 = nI z ∧ M 79 20 = nI z ∧ ∀ k, k < z → M 68 k = M 91 k
theorem VR.keep {M M1 : Mem} (h : VR M) (h1 : M1 67 = M 67) (h2 : M1 68 = M 68) (h3 : M1 91 = M 91) (h4 : M1 79 20 = M 79 20) : VR M1 := by
  unfold VR; rw [h1, h2, h3, h4]; exact h
/-- the IMAGE: kept m times -/
def IM (i : Nat) (M : Mem) : Prop := ∃ m n b t : Nat, m ≤ i ∧ M 0 7 = nI m ∧ M 79 4 = nI m ∧ (m = 0 → M 79 3 = 0) ∧ (m ≠ 0 → M 79 3 = 1) ∧ WK 25 n b t M ∧ (m ≠ 0 → RO n (M 81) ∧ RW2 25 81 n M)
theorem IM.keep {i : Nat} {M M1 : Mem} (h : IM i M) (h0 : M1 0 = M 0) (h3 : M1 79 3 = M 79 3) (h4 : M1 79 4 = M 79 4) (hk : ∀ c, 25 ≤ c → c ≤ 46 → c ≠ 30 → c ≠ 35 → M1 c = M c) (h81 : M1 81 = M 81) : IM (i + 1) M1 := by
  obtain ⟨m, n, b, t, g1, g2, g3, g4, g5, g6, g7⟩ := h
  exact ⟨m, n, b, t, by omega, by rw [h0]; exact g2, h4.trans g3, fun e => h3.trans (g4 e), fun e => h3.trans (g5 e), g6.keep (fun c c1 c2 c3 c4 => hk c c1 (by omega) (by omega) (by omega)), fun e => ⟨by rw [h81]; exact (g7 e).1, (g7 e).2.keep g6.1 (fun c c1 c2 c3 c4 => hk c c1 (by omega) (by omega) (by omega)) h81⟩⟩
theorem KA.keep {M M1 : Mem} (h : KA M) (_ : M1 92 = M 92) : KA M1 := h
/-- what is, whole and model, with its numbers -/
def NW (n b t : Nat) (M : Mem) : Prop := WK 1 n b t M ∧ RO n (M 80) ∧ RW2 1 80 n M
/-- what stays true behind each pair of calls, behind i of them -/
def Inv (i : Nat) (M : Mem) : Prop := KA M ∧ (∃ n b t : Nat, NW n b t M) ∧ SH M ∧ VR M ∧ IM i M
/-- the rest of it stays -/
theorem Inv.rest {i : Nat} {M M2 : Mem} (h : Inv i M) (hs : St (fun b => (decide (1 ≤ b) && decide (b ≤ 24)) || (decide (49 ≤ b) && decide (b ≤ 66)) || b == 78 || b == 79 || b == 80 || (decide (82 ≤ b) && decide (b ≤ 86)) || b == 90) M M2) (h3 : M2 79 3 = M 79 3) (h4 : M2 79 4 = M 79 4) (h20 : M2 79 20 = M 79 20) {n b t : Nat} (hN : NW n b t M2) : Inv (i + 1) M2 :=
  ⟨h.1.keep (hs _ rfl), ⟨n, b, t, hN⟩, h.2.2.1.keep (fun c c1 c2 => hs _ (by simp <;> omega)) (hs _ rfl) (hs _ rfl) (hs _ rfl), h.2.2.2.1.keep (hs _ rfl) (hs _ rfl) (hs _ rfl) h20, h.2.2.2.2.keep (hs _ rfl) h3 h4 (fun c c1 c2 c3 c4 => hs _ (by simp <;> omega)) (hs _ rfl)⟩
theorem inv_neutral {i n b0 t0 d b t : Nat} {z : Int32} {M M1 M2 : Mem} (hI : Inv i M) (hN : NW n b0 t0 M) (hb : b ≤ 50) (ht : t ≤ 20) (h1 : NX n d (nI b) (nI t) z M M1) (h2 : NM n d (nI b) (nI t) z M1 M2) : Inv (i + 1) M2 := by
  obtain ⟨k0, k1, k2, k3, k4, k5, k6, k7, k8, k9, k10⟩ := h1
  obtain ⟨m1, m2, m3, m4, m5, m6, m7, m8, m9, m10⟩ := h2
  have ex : ∀ c, c < 79 → M2 c = M1 c := fun c hc => m1 c (by simp <;> omega)
  have em : ∀ c, 79 ≤ c → M1 c = M c := fun c hc => k1 c (by simp <;> omega)
  obtain ⟨w, r, q2⟩ := hN
  have hn := w.1
  refine hI.rest (fun c hc => ?_) (m8.trans (by rw [em 79 (by omega)])) (m9.trans (by rw [em 79 (by omega)])) (m10.trans (by rw [em 79 (by omega)])) (n := n) (b := b) (t := t) ⟨⟨hn, hb, ht, ?_, ?_, ?_, ?_, ?_, ?_⟩, m2, ?_⟩
  · have a1 : M2 c = M1 c := m1 c (by simp at hc ⊢; omega)
    have a2 : M1 c = M c := k1 c (by simp at hc ⊢; omega)
    rw [a1, a2]
  · rw [ex _ (by omega)]; exact k2
  · rw [ex _ (by omega)]; exact k4
  · rw [ex _ (by omega)]; exact k5
  · intro q hq
    rw [ex (1 + 13 + q) (by omega)]
    refine ⟨k8 q hq, ?_⟩
    have e0 : M1 (1 + 13 + q) 0 = M (1 + 13 + q) 0 := (k7 q (by omega)).1
    rw [e0]; exact (w.2.2.2.2.2.2.1 q hq).2
  · exact k9.keep (ex _ (by omega)) (ex _ (by omega)) (ex _ (by omega)) (ex _ (by omega))
  · exact k10.keep (ex _ (by omega)) (ex _ (by omega)) (ex _ (by omega)) (ex _ (by omega))
  · have e80 : M1 80 = M 80 := em 80 (by omega)
    refine ⟨?_, ?_, ?_, ?_, fun q hq => ?_⟩
    · rw [ex _ (by omega), m3, e80]
      have : M1 (1 + 11) 6 = M (1 + 11) 6 + nI d := k3
      rw [this, q2.1]
    · rw [ex _ (by omega), m4]; exact k4
    · rw [ex _ (by omega), m5]; exact k5
    · rw [ex _ (by omega), m6]; exact k6
    · obtain ⟨a0, a1, a2⟩ := m7 q (by omega)
      rw [ex _ (by omega), a0, a1, a2, e80]
      obtain ⟨b0', b1', b2'⟩ := k7 q (by omega)
      have c0 : M1 (1 + 13 + q) 0 = M (1 + 13 + q) 0 := b0'
      have c1 : M1 (1 + 13 + q) 1 = M (1 + 13 + q) 1 := b1'
      have c2 : M1 (1 + 13 + q) 2 = M (1 + 13 + q) 2 := b2'
      rw [c0, c1, c2]; exact q2.2.2.2.2 q hq
theorem NW.b5 {n b t : Nat} {M : Mem} (h : NW n b t M) : M 1 5 = nI b ∧ M 1 6 = nI t ∧ M 80 3 = nI b ∧ M 80 4 = nI t ∧ M 80 1 = M 1 7 ∧ M 80 0 = M 12 6 :=
  ⟨h.1.2.2.2.2.1, h.1.2.2.2.2.2.1, h.2.2.2.1.symm.trans h.1.2.2.2.2.1, h.2.2.2.2.1.symm.trans h.1.2.2.2.2.2.1, h.2.2.2.2.2.1.symm, h.2.2.1.symm⟩
/-- a class' call and a model's that keep d, b, t, z in step -/
theorem inv_n0 {i n b t : Nat} {M M1 M2 : Mem} (hI : Inv i M) (hN : NW n b t M) (h1 : NX n 0 (M 1 5) (M 1 6) (M 1 7) M M1) (h2 : NM n 0 (M1 80 3) (M1 80 4) (M1 80 1) M1 M2) : Inv (i + 1) M2 := by
  obtain ⟨e1, e2, e3, e4, e5, e6⟩ := hN.b5
  have em : M1 80 = M 80 := h1.2.1 80 rfl
  rw [em, e3, e4, e5] at h2
  rw [e1, e2] at h1
  exact inv_neutral hI hN hN.1.2.1 hN.1.2.2.1 h1 h2
theorem inv_th {i n b t : Nat} {M M1 M2 : Mem} (hI : Inv i M) (hN : NW n b t M) (h1 : St SX M M1) (h2 : St SMx M1 M2) : Inv (i + 1) M2 := by
  have hR1 : RO n (M1 80) := by rw [h1 80 rfl]; exact hN.2.1
  exact inv_n0 hI hN (NX.ofSX hN.1.cn h1) (NM.ofSX hR1 h2)
