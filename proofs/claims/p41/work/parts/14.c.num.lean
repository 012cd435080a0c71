/-- the numbers of what is are others -/
theorem SA.num {n n' b t : Nat} {V V' : Nat → Nat} {h h' : Nat → Int32} {M M2 : Mem} (hS : SA 1 80 n b t V h M) (hc : ∀ c, 2 ≤ c → c ≤ 24 → (c < 12 ∨ 22 < c) → c ≠ 6 → c ≠ 11 → M2 c = M c) (h1 : ∀ k, k ≠ 7 → M2 1 k = M 1 k) (hr : ∀ k, (k = 3 ∨ k = 4 ∨ k = 5 ∨ k = 6 ∨ 74 ≤ k) → M2 80 k = M 80 k) (hz : M2 1 7 = M2 80 1) (hG : RG 12 n' h' V' M2) (h7 : M2 12 7 = nI (V' 9)) (hR : RR n' h' V' (M2 80)) (hV : RV n' V') (h0 : V' 0 ≤ 9999) (hH : HH n' h') : SA 1 80 n' b t V' h' M2 := by
  obtain ⟨s1, s2, s3, s4, s5, s6, s7, s8, s9, s10, s11, s12, s13⟩ := hS
  refine ⟨hG, h7, hR, hV, h0, hH, ?_, ?_, ⟨s9.1, by rw [h1 5 (by omega)]; exact s9.2.1, by rw [hr 3 (by omega)]; exact s9.2.2⟩, ⟨s10.1, by rw [h1 6 (by omega)]; exact s10.2.1, by rw [hr 4 (by omega)]; exact s10.2.2⟩, hz, fun j hj => by rw [hc (1 + 22) (by omega) (by omega) (by omega) (by omega) (by omega), hr _ (by omega)]; exact s12 j hj, fun j hj => by rw [hc (1 + 23) (by omega) (by omega) (by omega) (by omega) (by omega), hr _ (by omega)]; exact s13 j hj⟩
  · exact s7.keep (hc _ (by omega) (by omega) (by omega) (by omega) (by omega)) (hc _ (by omega) (by omega) (by omega) (by omega) (by omega)) (hc _ (by omega) (by omega) (by omega) (by omega) (by omega)) (hc _ (by omega) (by omega) (by omega) (by omega) (by omega)) (hr _ (by omega)) (fun j _ => hr _ (by omega))
  · exact s8.keep (hc _ (by omega) (by omega) (by omega) (by omega) (by omega)) (hc _ (by omega) (by omega) (by omega) (by omega) (by omega)) (hc _ (by omega) (by omega) (by omega) (by omega) (by omega)) (hc _ (by omega) (by omega) (by omega) (by omega) (by omega)) (hr _ (by omega)) (fun j _ => hr _ (by omega))
/-- texts and numbers stay; tape, waiting numbers or z change -/
theorem SA.re2 {n b t b' t' : Nat} {V : Nat → Nat} {h : Nat → Int32} {M M1 : Mem} (hS : SA 1 80 n b t V h M) (hc : ∀ c, 2 ≤ c → c ≤ 22 → M1 c = M c) (hr : ∀ k, k ≠ 1 → k ≠ 3 → k ≠ 4 → (k < 74 ∨ 144 ≤ k) → M1 80 k = M 80 k) (hb : b' ≤ 50 ∧ M1 1 5 = nI b' ∧ M1 80 3 = nI b') (ht : t' ≤ 20 ∧ M1 1 6 = nI t' ∧ M1 80 4 = nI t') (hz : M1 1 7 = M1 80 1) (hT : ∀ j : Nat, j < b' → M1 23 j = M1 80 (74 + j)) (hW : ∀ j : Nat, j < t' → M1 24 j = M1 80 (124 + j)) : SA 1 80 n b' t' V h M1 :=
  hS.re (fun c c1 c2 => hc c (by omega) c2) (fun k k1 k2 k3 k4 k5 k6 => hr k k2 k3 k4 (by omega)) (hS.t0.keep (hc _ (by omega) (by omega)) (hc _ (by omega) (by omega)) (hc _ (by omega) (by omega)) (hc _ (by omega) (by omega)) (hr _ (by omega) (by omega) (by omega) (by omega)) (fun j _ => hr _ (by omega) (by omega) (by omega) (by omega))) (hS.t1.keep (hc _ (by omega) (by omega)) (hc _ (by omega) (by omega)) (hc _ (by omega) (by omega)) (hc _ (by omega) (by omega)) (hr _ (by omega) (by omega) (by omega) (by omega)) (fun j _ => hr _ (by omega) (by omega) (by omega) (by omega))) hb ht hz hT hW
/-- a one's field k and its number at s -/
def FS (k s : Nat) : Prop := (k = 0 ∧ s = 11) ∨ (k = 1 ∧ s = 12) ∨ (k = 2 ∧ s = 13) ∨ (k = 3 ∧ s = 14) ∨ (k = 6 ∧ s = 16) ∨ (k = 5 ∧ s = 17)
theorem RG.putA {g n i : Nat} {h : Nat → Int32} {W : Nat → Nat} {M : Mem} {k s x : Nat} (hR : RG g n h W M) (hi : i < n) (hn : n ≤ 9) (hks : FS k s) : RG g n h (adf W (s + 7 * i) x) (up M (g + 2 + i) k (nI x)) := by
  obtain ⟨r1, r2, r3, r4, r5, r6⟩ := hR
  have hs : 11 ≤ s ∧ s ≤ 17 := by unfold FS at hks; omega
  refine ⟨by rw [up_cell (by omega)]; exact r1, by rw [up_cell (by omega), adf_o (by omega)]; exact r2, by rw [up_cell (by omega), adf_o (by omega)]; exact r3, by rw [up_cell (by omega), adf_o (by omega)]; exact r4, by rw [up_cell (by omega), adf_o (by omega)]; exact r5, fun r hr => ?_⟩
  obtain ⟨p1, p2, p3, p4, p5, p6, p7⟩ := r6 r hr
  by_cases e : r = i
  · subst e
    have key : ∀ k' s', FS k' s' → M (g + 2 + r) k' = nI (W (s' + 7 * r)) → up M (g + 2 + r) k (nI x) (g + 2 + r) k' = nI (adf W (s + 7 * r) x (s' + 7 * r)) := fun k' s' h' p => by
      by_cases c : s' = s
      · have : k' = k := by unfold FS at hks h'; omega
        subst c; subst this; rw [up_same, adf_s]
      · have : k' ≠ k := by unfold FS at hks h'; omega
        rw [up_slot _ this, adf_o (by omega)]; exact p
    refine ⟨key 0 11 (by unfold FS; omega) p1, key 1 12 (by unfold FS; omega) p2, key 2 13 (by unfold FS; omega) p3, key 3 14 (by unfold FS; omega) p4, ?_, key 6 16 (by unfold FS; omega) p6, key 5 17 (by unfold FS; omega) p7⟩
    rw [up_slot _ (by unfold FS at hks; omega)]; exact p5
  · have hc : ∀ j, up M (g + 2 + i) k (nI x) (g + 2 + r) j = M (g + 2 + r) j := fun j => up_cell (by omega)
    have ha : ∀ j, 11 ≤ j → j ≤ 17 → adf W (s + 7 * i) x (j + 7 * r) = W (j + 7 * r) := fun j j1 j2 => adf_o (by omega)
    refine ⟨by rw [hc, ha 11 (by omega) (by omega)]; exact p1, by rw [hc, ha 12 (by omega) (by omega)]; exact p2, by rw [hc, ha 13 (by omega) (by omega)]; exact p3, by rw [hc, ha 14 (by omega) (by omega)]; exact p4, by rw [hc]; exact p5, by rw [hc, ha 16 (by omega) (by omega)]; exact p6, by rw [hc, ha 17 (by omega) (by omega)]; exact p7⟩
theorem RV.putA {n i s x : Nat} {V : Nat → Nat} (hV : RV n V) (hi : i < n) (hs : 11 ≤ s ∧ s ≤ 17) (hx : (s = 11 → x ≤ 6) ∧ (s = 12 → x ≤ 9) ∧ (s = 13 → x ≤ 9) ∧ (s = 14 → x ≤ 99) ∧ (s = 16 → x ≤ 1) ∧ (s = 17 → x ≤ 999)) : RV n (adf V (s + 7 * i) x) := by
  obtain ⟨v1, v2, v3, v4, v5, v6, v7⟩ := hV
  obtain ⟨x1, x2, x3, x4, x5, x6⟩ := hx
  refine ⟨v1, by rw [adf_o (by omega)]; exact v2, by rw [adf_o (by omega)]; exact v3, by rw [adf_o (by omega)]; exact v4, by rw [adf_o (by omega)]; exact v5, by rw [adf_o (by omega)]; exact v6, fun q hq => ?_⟩
  obtain ⟨g1, g2, g3, g4, g5, g6⟩ := v7 q hq
  have key : ∀ s' m, 11 ≤ s' → s' ≤ 17 → V (s' + 7 * q) ≤ m → (s = s' → x ≤ m) → adf V (s + 7 * i) x (s' + 7 * q) ≤ m := fun s' m l1 l2 a c => by
    by_cases e : s' + 7 * q = s + 7 * i
    · rw [e, adf_s]; exact c (by omega)
    · rw [adf_o e]; exact a
  exact ⟨key 11 6 (by omega) (by omega) g1 x1, key 12 9 (by omega) (by omega) g2 x2, key 13 9 (by omega) (by omega) g3 x3, key 14 99 (by omega) (by omega) g4 x4, key 16 1 (by omega) (by omega) g5 x5, key 17 999 (by omega) (by omega) g6 x6⟩
section ZF
variable {i : Nat} {M : Mem}
theorem z2_seed {a : Int32} (hI : Inv2 i M) : wp_X7_seed a M (fun r1 M1 => wp_X8_seed a M1 (fun r2 M2 => r1 = r2 ∧ Inv2 (i + 1) M2)) := by
  obtain ⟨n, b, t, V, h, hS⟩ := hI.2.1
  obtain ⟨⟨b1, b2, b3⟩, ⟨t1, t2, t3⟩, hz, hT, hW⟩ := hS.bt
  unfold wp_X7_seed wp_X8_seed
  have e : ∀ c, c ≠ 1 → c ≠ 80 → (up (up M 1 7 a) 80 1 a) c = M c := fun c c1 c2 => by rw [up_o _ c2, up_o _ c1]
  have e1 : ∀ k, k ≠ 7 → (up (up M 1 7 a) 80 1 a) 1 k = M 1 k := fun k hk => by rw [up_cell (by omega), up_slot _ hk]
  have e8 : ∀ k, k ≠ 1 → (up (up M 1 7 a) 80 1 a) 80 k = M 80 k := fun k hk => by rw [up_slot _ hk, up_cell (by omega)]
  refine ⟨by rw [up_cell (by omega)]; exact hz, hI.rest (fun c hc => e c (by simp at hc; omega) (by simp at hc; omega)) (by rw [e 79 (by omega) (by omega)]) (by rw [e 79 (by omega) (by omega)]) (by rw [e 79 (by omega) (by omega)]) (hS.re2 (b' := b) (t' := t) (fun c c1 c2 => e c (by omega) (by omega)) (fun k k1 k2 k3 k4 => e8 k k1) ⟨b1, by rw [e1 5 (by omega)]; exact b2, by rw [e8 3 (by omega)]; exact b3⟩ ⟨t1, by rw [e1 6 (by omega)]; exact t2, by rw [e8 4 (by omega)]; exact t3⟩ (by rw [up_cell (by omega), up_same, up_same]) (fun j hj => by rw [e 23 (by omega) (by omega), e8 _ (by omega)]; exact hT j hj) (fun j hj => by rw [e 24 (by omega) (by omega), e8 _ (by omega)]; exact hW j hj))⟩
theorem z2_tell {a : Int32} (hI : Inv2 i M) : wp_X7_tell a M (fun r1 M1 => wp_X8_tell a M1 (fun r2 M2 => r1 = r2 ∧ Inv2 (i + 1) M2)) := by
  obtain ⟨n, b, t, V, h, hS⟩ := hI.2.1
  obtain ⟨⟨b1, b2, b3⟩, ⟨t1, t2, t3⟩, hz, hT, hW⟩ := hS.bt
  unfold wp_X7_tell
  rw [t2]
  refine pk_lt t 20 (fun h20 => ⟨vp_in_nI h20 (by decide), ?_⟩) (fun h20 => e7A (i := 4) (by omega) (by omega) (by decide) St.rf (fun M1 p1 => ?_))
  · rw [up_same, up_cell (by omega), t2, nI_1, nI_clamp (by omega)]
    unfold wp_X8_tell
    dsimp only
    have e4 : (up (up M 24 t a) 1 6 (nI (t + 1))) 80 4 = nI t := by rw [up_cell (by omega), up_cell (by omega)]; exact t3
    rw [e4, show (124 : Int32) = nI 124 from rfl, nI_add, nI_clamp (by omega)]
    refine ⟨fun _ => ⟨vp_in_nI (by omega) (by decide), ?_⟩, fun q => absurd ((nI_eq (a := t) (b := 20) (by omega) (by omega)).mp q) (by omega)⟩
    rw [up_same, up_slot 80 (show 4 ≠ 124 + t by omega), e4, nI_1]
    have e : ∀ c, c ≠ 1 → c ≠ 24 → c ≠ 80 → (up (up (up (up M 24 t a) 1 6 (nI (t + 1))) 80 (124 + t) a) 80 4 (nI (t + 1))) c = M c := fun c c1 c2 c3 => by rw [up_o _ c3, up_o _ c3, up_o _ c1, up_o _ c2]
    have e1 : ∀ k, k ≠ 6 → (up (up (up (up M 24 t a) 1 6 (nI (t + 1))) 80 (124 + t) a) 80 4 (nI (t + 1))) 1 k = M 1 k := fun k hk => by rw [up_cell (by omega), up_cell (by omega), up_slot _ hk, up_cell (by omega)]
    have e8 : ∀ k, k ≠ 4 → k ≠ 124 + t → (up (up (up (up M 24 t a) 1 6 (nI (t + 1))) 80 (124 + t) a) 80 4 (nI (t + 1))) 80 k = M 80 k := fun k k1 k2 => by rw [up_slot _ k1, up_slot _ k2, up_cell (by omega), up_cell (by omega)]
    refine ⟨rfl, hI.rest (fun c hc => e c (by simp at hc; omega) (by simp at hc; omega) (by simp at hc; omega)) (by rw [e 79 (by omega) (by omega) (by omega)]) (by rw [e 79 (by omega) (by omega) (by omega)]) (by rw [e 79 (by omega) (by omega) (by omega)]) (hS.re2 (b' := b) (t' := t + 1) (fun c c1 c2 => e c (by omega) (by omega) (by omega)) (fun k k1 k2 k3 k4 => e8 k k3 (by omega)) ⟨b1, by rw [e1 5 (by omega)]; exact b2, by rw [e8 3 (by omega) (by omega)]; exact b3⟩ ⟨by omega, by rw [up_cell (by omega), up_cell (by omega), up_same], up_same⟩ (by rw [e1 7 (by omega), e8 1 (by omega) (by omega)]; exact hz) (fun j hj => by rw [e 23 (by omega) (by omega) (by omega), e8 _ (by omega) (by omega)]; exact hT j hj) (fun j hj => ?_))⟩
    rw [up_cell (b := 24) (by omega), up_cell (b := 24) (by omega), up_cell (b := 24) (by omega)]
    by_cases g : j = t
    · subst g; rw [up_same, up_slot 80 (show 124 + j ≠ 4 by omega), up_same]
    · rw [up_slot _ g, e8 _ (by omega) (by omega)]; exact hW j (by omega)
  · have : t = 20 := by omega
    subst this
    unfold wp_X8_tell
    dsimp only
    have e4 : M1 80 4 = nI 20 := by rw [p1.1 80 rfl]; exact t3
    rw [e4]
    exact ⟨fun q => absurd rfl q, fun _ => e8A (i := 4) (by omega) (by omega) (by decide) St.rf (fun M2 p2 => ⟨rfl, hI.th p1.1 p2.1⟩)⟩
theorem b_sx (s : Nat) (hs : s ≤ 56) (x : BitVec 64) : (BitVec.signExtend 32 (x >>> s)) &&& 255#32 = BitVec.signExtend 32 (x.sshiftRight s &&& 255#64) := by
  apply BitVec.eq_of_getLsbD_eq
  intro k hk
  rw [BitVec.getLsbD_and, BitVec.getLsbD_signExtend, BitVec.getLsbD_signExtend, BitVec.getLsbD_and, BitVec.getLsbD_ushiftRight, BitVec.getLsbD_sshiftRight]
  have a1 : k < 64 := by omega
  have a2 : ¬ 64 ≤ k := by omega
  have c255 : ∀ n : Nat, k < n → (BitVec.ofNat n 255).getLsbD k = decide (k < 8) := fun n hn => by
    rw [BitVec.getLsbD_ofNat]
    by_cases h : k < 8
    · rcases (by omega : k = 0 ∨ k = 1 ∨ k = 2 ∨ k = 3 ∨ k = 4 ∨ k = 5 ∨ k = 6 ∨ k = 7) with rfl | rfl | rfl | rfl | rfl | rfl | rfl | rfl <;> simp [hn] <;> decide
    · have : Nat.testBit 255 k = false := Nat.testBit_lt_two_pow (Nat.lt_of_lt_of_le (by decide : 255 < 2 ^ 8) (Nat.pow_le_pow_right (by omega) (by omega)))
      rw [this]; simp [h]
  rw [c255 32 hk, c255 64 a1]
  by_cases h : k < 8
  · have a3 : s + k < 64 := by omega
    simp [hk, a1, a2, a3, h]
  · simp [h]; intro _ q; omega
theorem feed_byte (w : Int64) : ∀ j : Nat, j < 8 → (((w.toUInt64 >>> ((8 * nI j).toInt64.toUInt64 &&& Int64.toUInt64 63)).toInt64).toInt32) &&& 255 = ((w >>> ((8 * nI j).toInt64 &&& 63)) &&& 255).toInt32 := by
  intro j hj
  have h1 : (((8 * nI j).toInt64.toUInt64 &&& Int64.toUInt64 63).toBitVec % 64).toNat = 8 * j := by
    rcases (by omega : j = 0 ∨ j = 1 ∨ j = 2 ∨ j = 3 ∨ j = 4 ∨ j = 5 ∨ j = 6 ∨ j = 7) with rfl | rfl | rfl | rfl | rfl | rfl | rfl | rfl <;> decide
  have h2 : (((8 * nI j).toInt64 &&& 63).toBitVec.smod 64).toNat = 8 * j := by
    rcases (by omega : j = 0 ∨ j = 1 ∨ j = 2 ∨ j = 3 ∨ j = 4 ∨ j = 5 ∨ j = 6 ∨ j = 7) with rfl | rfl | rfl | rfl | rfl | rfl | rfl | rfl <;> decide
  apply Int32.toBitVec_inj.mp
  rw [Int32.toBitVec_and]
  have e1 : ((w.toUInt64 >>> ((8 * nI j).toInt64.toUInt64 &&& Int64.toUInt64 63)).toInt64).toInt32.toBitVec = BitVec.signExtend 32 (w.toBitVec >>> (8 * j)) := by
    rw [← h1]
    exact congrArg (BitVec.signExtend 32) (UInt64.toBitVec_shiftRight _ _)
  have e2 : ((w >>> ((8 * nI j).toInt64 &&& 63)) &&& 255).toInt32.toBitVec = BitVec.signExtend 32 (w.toBitVec.sshiftRight (8 * j) &&& 255#64) := by
    rw [← h2]; rfl
  rw [e1, e2]
  exact b_sx _ (by omega) _
theorem z2_feed {w : Int64} {a : Int32} (hI : Inv2 i M) : wp_X7_feed w a M (fun r1 M1 => wp_X8_feed w a M1 (fun r2 M2 => r1 = r2 ∧ Inv2 (i + 1) M2)) := by
  obtain ⟨n, b, t, V, h, hS⟩ := hI.2.1
  obtain ⟨⟨b1, b2, b3⟩, ⟨t1, t2, t3⟩, hz, hT, hW⟩ := hS.bt
  by_cases hc : 1 ≤ a.toInt ∧ a.toInt ≤ 8
  · obtain ⟨N, hN, rfl⟩ := nat_of (x := a) 8 (by omega) hc.2 (by decide)
    have hN1 : 1 ≤ N := by have := hc.1; rw [nI_toInt (by omega)] at this; omega
    unfold wp_X7_feed
    refine w7n 1 8 (by decide) (by decide) (fun _ _ => ?_) (fun g => absurd hc g)
    rw [b2, nI_add]
    refine pk_le (b + N) 50 (fun q => ?_) (fun q => e7A (i := 4) (by omega) (by omega) (by decide) St.rf (fun M1 p1 => ?_))
    · refine loopN (L := fun k y M' => wp_X7_feed_L41 (fun r1 M1 => wp_X8_feed w (nI N) M1 (fun r2 M2 => r1 = r2 ∧ Inv2 (i + 1) M2)) w (nI N) k y M') N (fun i M' => St (fun c => c == 23) M M' ∧ (∀ k, (k < b ∨ b + i ≤ k) → M' 23 k = M 23 k) ∧ ∀ j, j < i → M' 23 (b + j) = ((w >>> ((8 * nI j).toInt64 &&& 63)) &&& 255).toInt32) ?_ 0 (Nat.zero_le _) ⟨St.rf, fun _ _ => rfl, fun j hj => absurd hj (Nat.not_lt_zero j)⟩
      intro x M' k hi hs ih
      obtain ⟨hs, hl, hg⟩ := hs
      show wp_X7_feed_l41 _ w (nI N) (wp_X7_feed_L41 _ w (nI N) k) (nI x) M'
      unfold wp_X7_feed_l41
      have e5 : M' 1 5 = nI b := by rw [hs 1 rfl]; exact b2
      rw [up_same, e5, nI_add, nI_add]
      refine ⟨fun q2 => ?_, fun q2 => ?_⟩
      · have : x = N := by have := le_of_nI q2 (by omega) (by omega); omega
        subst this
        unfold wp_X8_feed
        refine w8n 1 8 (by decide) (by decide) (fun _ _ => ?_) (fun g => absurd hc g)
        have f3 : (up M' 1 5 (nI (b + x))) 80 3 = nI b := by rw [up_cell (by omega), hs 80 rfl]; exact b3
        rw [f3, nI_add]
        refine ⟨fun _ => ?_, fun g => absurd (show nI (b + x) ≤ nI 50 from nI_le q (by omega)) g⟩
        generalize hM1 : up M' 1 5 (nI (b + x)) = M1 at f3
        have m1 : ∀ c, c ≠ 1 → c ≠ 23 → M1 c = M c := fun c c1 c2 => by rw [← hM1, up_o _ c1, hs c (by simp [c2])]
        have m11 : ∀ k, k ≠ 5 → M1 1 k = M 1 k := fun k hk => by rw [← hM1, up_slot _ hk, hs 1 rfl]
        have m15 : M1 1 5 = nI (b + x) := by rw [← hM1, up_same]
        have m23 : M1 23 = M' 23 := by rw [← hM1, up_o _ (by omega)]
        refine loopN (L := fun k v M' => wp_X8_feed_L40 (fun r2 M2 => nI (b + x) = r2 ∧ Inv2 (i + 1) M2) w (nI x) k v M') x (fun y M2 => St (fun c => c == 80) M1 M2 ∧ M2 80 3 = nI (b + y) ∧ (∀ k, k ≠ 3 → (k < 74 + b ∨ 74 + b + y ≤ k) → M2 80 k = M1 80 k) ∧ ∀ j, j < y → M2 80 (74 + (b + j)) = ((w >>> ((8 * nI j).toInt64 &&& 63)) &&& 255).toInt32) ?_ 0 (Nat.zero_le _) ⟨St.rf, f3, fun _ _ _ => rfl, fun j hj => absurd hj (Nat.not_lt_zero j)⟩
        intro y M2 k2 hy hs2 ih2
        obtain ⟨s2, s3, s4, s5⟩ := hs2
        show wp_X8_feed_l40 _ w (nI x) (wp_X8_feed_L40 _ w (nI x) k2) (nI y) M2
        unfold wp_X8_feed_l40
        rw [s3, show (74 : Int32) = nI 74 from rfl, nI_add, nI_clamp (by omega)]
        refine ⟨fun q3 => ?_, fun q3 => ⟨vp_in_nI (by omega) (by decide), ?_⟩⟩
        · have : y = x := by have := le_of_nI q3 (by omega) (by omega); omega
          subst this
          have e : ∀ c, c ≠ 1 → c ≠ 23 → c ≠ 80 → M2 c = M c := fun c c1 c2 c3 => by rw [s2 c (by simp [c3])]; exact m1 c c1 c2
          have e1 : ∀ k, k ≠ 5 → M2 1 k = M 1 k := fun k hk => by rw [s2 1 rfl]; exact m11 k hk
          have e8 : ∀ k, k ≠ 3 → (k < 74 + b ∨ 74 + b + y ≤ k) → M2 80 k = M 80 k := fun k k1 k2 => by rw [s4 k k1 k2, m1 80 (by omega) (by omega)]
          refine ⟨rfl, hI.rest (fun c hc => e c (by simp at hc; omega) (by simp at hc; omega) (by simp at hc; omega)) (by rw [e 79 (by omega) (by omega) (by omega)]) (by rw [e 79 (by omega) (by omega) (by omega)]) (by rw [e 79 (by omega) (by omega) (by omega)]) (hS.re2 (b' := b + y) (t' := t) (fun c c1 c2 => e c (by omega) (by omega) (by omega)) (fun k k1 k2 k3 k4 => e8 k k2 (by omega)) ⟨by omega, by rw [s2 1 rfl]; exact m15, s3⟩ ⟨t1, by rw [e1 6 (by omega)]; exact t2, by rw [e8 4 (by omega) (by omega)]; exact t3⟩ (by rw [e1 7 (by omega), e8 1 (by omega) (by omega)]; exact hz) (fun j hj => ?_) (fun j hj => by rw [e 24 (by omega) (by omega) (by omega), e8 _ (by omega) (by omega)]; exact hW j hj))⟩
          rw [s2 23 rfl, m23]
          rcases Nat.lt_or_ge j b with g | g
          · rw [hl j (Or.inl g), e8 _ (by omega) (by omega)]; exact hT j g
          · obtain ⟨d, rfl⟩ : ∃ d, j = b + d := ⟨j - b, by omega⟩
            rw [hg d (by omega), s5 d (by omega)]
        · have hyx : y < x := lt_of_nI q3 (by omega) (by omega)
          rintro _ rfl
          rw [nI_1, up_slot _ (by omega), s3, nI_1]
          refine ih2 _ hyx ⟨(s2.up rfl).up rfl, up_same, fun k k1 k2 => ?_, fun j hj => ?_⟩
          · rw [up_slot _ k1, up_slot _ (by omega)]; exact s4 k k1 (by omega)
          · rw [up_slot _ (by omega)]
            by_cases g : j = y
            · subst g; rw [show 74 + (b + j) = 74 + (b + j) from rfl, up_same]
            · rw [up_slot _ (by omega)]; exact s5 j (by omega)
      · have hi2 : x < N := lt_of_nI q2 (by omega) (by omega)
        refine ⟨vp_in_nI (by omega) (by decide), ?_⟩
        rintro _ rfl
        rw [nI_1, nI_clamp (by omega), feed_byte w x (by omega)]
        refine ih _ hi2 ⟨hs.up rfl, fun k hk => ?_, fun j hj => ?_⟩
        · rw [up_slot _ (by omega)]; exact hl k (by omega)
        · by_cases g : j = x
          · subst g; rw [up_same]
          · rw [up_slot _ (by omega)]; exact hg j (by omega)
    · unfold wp_X8_feed
      refine w8n 1 8 (by decide) (by decide) (fun _ _ => ?_) (fun g => absurd hc g)
      have f3 : M1 80 3 = nI b := by rw [p1.1 80 rfl]; exact b3
      rw [f3, nI_add]
      exact ⟨fun g => absurd (le_of_nI (a := b + N) (b := 50) g (by omega) (by omega)) (by omega), fun _ => e8A (i := 4) (by omega) (by omega) (by decide) St.rf (fun M2 p2 => ⟨rfl, hI.th p1.1 p2.1⟩)⟩
  · unfold wp_X7_feed
    refine w7n 1 8 (by decide) (by decide) (fun g1 g2 => absurd ⟨g1, g2⟩ hc) (fun _ => e7A (i := 1) (by omega) (by omega) (by decide) St.rf (fun M1 p1 => ?_))
    unfold wp_X8_feed
    exact w8n 1 8 (by decide) (by decide) (fun g1 g2 => absurd ⟨g1, g2⟩ hc) (fun _ => e8A (i := 1) (by omega) (by omega) (by decide) St.rf (fun M2 p2 => ⟨rfl, hI.th p1.1 p2.1⟩))
end ZF
