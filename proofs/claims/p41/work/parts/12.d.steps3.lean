/-- a good move; what a bad one answers -/
def mvG (B Z : Nat → Int32) (s a o c v : Int32) : Prop := ∃ p q z1 z2 : Nat, p < 4 ∧ q < 4 ∧ s = nI p ∧ o = nI q ∧ ¬ B p = 0 ∧ ¬ B q = 0 ∧ B p = B q ∧ Z p = nI z1 ∧ Z q = nI z2 ∧ z1 ≤ 40 ∧ z2 ≤ 40 ∧ MvG z1 z2 a c v
def mvM (B : Nat → Int32) (s o : Int32) : Prop := ∃ p q : Nat, p < 4 ∧ q < 4 ∧ s = nI p ∧ o = nI q ∧ (B p = 0 ∨ B q = 0)
def mvU (B : Nat → Int32) (s o : Int32) : Prop := ∃ p q : Nat, p < 4 ∧ q < 4 ∧ s = nI p ∧ o = nI q ∧ ¬ B p = B q
noncomputable def mvE (B : Nat → Int32) (s o : Int32) : Int32 := @ite _ (mvM B s o) (Classical.propDecidable _) (-1000000002) (@ite _ (mvU B s o) (Classical.propDecidable _) (-1000000005) (-1000000001))
theorem mv_inj {p q : Nat} {v : Int32} (hp : p < 41) (hq : q < 41) (e1 : v = nI p) (e2 : v = nI q) : q = p := (nI_eq (by omega) (by omega)).mp (e2.symm.trans e1)
theorem mvE_m {B : Nat → Int32} {s o : Int32} (h : mvM B s o) : mvE B s o = -1000000002 := if_pos h
theorem mvE_u {B : Nat → Int32} {s o : Int32} (h : ¬ mvM B s o) (h2 : mvU B s o) : mvE B s o = -1000000005 := by unfold mvE; rw [if_neg h, if_pos h2]
theorem mvE_b {B : Nat → Int32} {s o : Int32} (h : ¬ mvM B s o) (h2 : ¬ mvU B s o) : mvE B s o = -1000000001 := by unfold mvE; rw [if_neg h, if_neg h2]
theorem mvM_at {B : Nat → Int32} {s o : Int32} {p q : Nat} (hp : p < 4) (hq : q < 4) (ep : s = nI p) (eq : o = nI q) : mvM B s o ↔ (B p = 0 ∨ B q = 0) := ⟨fun ⟨p', q', hp', hq', ep', eq', h⟩ => by
  have e1 := mv_inj (by omega) (by omega) ep ep'; have e2 := mv_inj (by omega) (by omega) eq eq'; subst e1; subst e2; exact h, fun h => ⟨p, q, hp, hq, ep, eq, h⟩⟩
theorem mvU_at {B : Nat → Int32} {s o : Int32} {p q : Nat} (hp : p < 4) (hq : q < 4) (ep : s = nI p) (eq : o = nI q) : mvU B s o ↔ ¬ B p = B q := ⟨fun ⟨p', q', hp', hq', ep', eq', h⟩ => by
  have e1 := mv_inj (by omega) (by omega) ep ep'; have e2 := mv_inj (by omega) (by omega) eq eq'; subst e1; subst e2; exact h, fun h => ⟨p, q, hp, hq, ep, eq, h⟩⟩
theorem mvG_at {B Z : Nat → Int32} {s a o c v : Int32} {p q : Nat} (hp : p < 4) (hq : q < 4) (ep : s = nI p) (eq : o = nI q) (h : mvG B Z s a o c v) : ¬ B p = 0 ∧ ¬ B q = 0 ∧ B p = B q ∧ ∃ z1 z2 : Nat, z1 ≤ 40 ∧ z2 ≤ 40 ∧ Z p = nI z1 ∧ Z q = nI z2 ∧ MvG z1 z2 a c v := by
  obtain ⟨p', q', z1, z2, hp', hq', ep', eq', h1, h2, h3, h4, h5, h6, h7, h8⟩ := h
  have e1 := mv_inj (by omega) (by omega) ep ep'; have e2 := mv_inj (by omega) (by omega) eq eq'; subst e1; subst e2
  exact ⟨h1, h2, h3, z1, z2, h6, h7, h4, h5, h8⟩
theorem mv_ok {s o : Int32} {p q : Nat} (hp : p < 4) (hq : q < 4) (e1 : s = nI p) (e2 : o = nI q) : ((0 ≤ s.toInt ∧ s.toInt ≤ 3) ∧ 0 ≤ o.toInt ∧ o.toInt ≤ 3) := by
  rw [e1, e2, nI_toInt (by omega), nI_toInt (by omega)]; omega
theorem mvE_congr {B B' : Nat → Int32} {s o : Int32} (h : ∀ p : Nat, p < 4 → B p = B' p) : mvE B s o = mvE B' s o := by
  have e1 : mvM B s o = mvM B' s o := propext ⟨fun ⟨p, q, hp, hq, ep, eq, g⟩ => ⟨p, q, hp, hq, ep, eq, by rw [← h p hp, ← h q hq]; exact g⟩, fun ⟨p, q, hp, hq, ep, eq, g⟩ => ⟨p, q, hp, hq, ep, eq, by rw [h p hp, h q hq]; exact g⟩⟩
  have e2 : mvU B s o = mvU B' s o := propext ⟨fun ⟨p, q, hp, hq, ep, eq, g⟩ => ⟨p, q, hp, hq, ep, eq, by rw [← h p hp, ← h q hq]; exact g⟩, fun ⟨p, q, hp, hq, ep, eq, g⟩ => ⟨p, q, hp, hq, ep, eq, by rw [h p hp, h q hq]; exact g⟩⟩
  unfold mvE; rw [e1, e2]
theorem mvG_congr {B B' Z Z' : Nat → Int32} {s a o c v : Int32} (h : ∀ p : Nat, p < 4 → B p = B' p) (hz : ∀ p : Nat, p < 4 → Z p = Z' p) (g : mvG B Z s a o c v) : mvG B' Z' s a o c v := by
  obtain ⟨p, q, z1, z2, hp, hq, ep, eq, h1, h2, h3, h4, h5, h6⟩ := g
  refine ⟨p, q, z1, z2, hp, hq, ep, eq, ?_, ?_, ?_, ?_, ?_, h6⟩
  · rw [← h p hp]; exact h1
  · rw [← h q hq]; exact h2
  · rw [← h p hp, ← h q hq]; exact h3
  · rw [← hz p hp]; exact h4
  · rw [← hz q hq]; exact h5
section ZV
variable {i : Nat} {M : Mem} {K : Int32 → Mem → Prop}
theorem p_move2 {s a o c v : Int32} (hS : SHc M)
    (hg : ∀ p q z1 z2 I J N : Nat, p < 4 → q < 4 → s = nI p → o = nI q → M (70 + 2 * p) 2 = nI z1 → z1 ≤ 40 → M (70 + 2 * q) 2 = nI z2 → z2 ≤ 40 → a = nI I → c = nI J → v = nI N → I + N ≤ z1 → J + N ≤ z2 → mvG (fun p => M (70 + 2 * p) 1) (fun p => M (70 + 2 * p) 2) s a o c v → K v (upA M (71 + 2 * q) (va_cpy (M (71 + 2 * p)) (M (71 + 2 * q)) I J N)))
    (he : ¬ mvG (fun p => M (70 + 2 * p) 1) (fun p => M (70 + 2 * p) 2) s a o c v → ∀ M1, St SX M M1 → K (mvE (fun p => M (70 + 2 * p) 1) s o) M1) : wp_X7_move s a o c v M K := by
  refine p_move hS (fun p q z1 z2 I J N hp hq ep eq e1 l1 e2 l2 b1 b2 b3 eI eJ eN k1 k2 => hg p q z1 z2 I J N hp hq ep eq e1 l1 e2 l2 eI eJ eN k1 k2 ⟨p, q, z1, z2, hp, hq, ep, eq, b1, b2, b3, e1, e2, l1, l2, ?_⟩) (fun g M1 h1 => ?_) (fun p q hp hq ep eq g M1 h1 => ?_) (fun p q hp hq ep eq b1 b2 b3 M1 h1 => ?_) (fun p q z1 z2 hp hq ep eq e1 l1 e2 l2 b1 b2 b3 g M1 h1 => ?_)
  · unfold MvG
    rw [eI, eJ, eN, nI_toInt (by omega), nI_toInt (by omega), nI_toInt (by omega)]; omega
  · have := he (fun ⟨p, q, _, _, hp, hq, ep, eq, _⟩ => g (mv_ok hp hq ep eq)) M1 h1
    rwa [mvE_b (fun ⟨p, q, hp, hq, ep, eq, _⟩ => g (mv_ok hp hq ep eq)) (fun ⟨p, q, hp, hq, ep, eq, _⟩ => g (mv_ok hp hq ep eq))] at this
  · have := he (fun h => by obtain ⟨b1, b2, -⟩ := mvG_at hp hq ep eq h; rcases g with g | g; exact b1 g; exact b2 g) M1 h1
    rwa [mvE_m ((mvM_at hp hq ep eq).mpr g)] at this
  · have := he (fun h => b3 (mvG_at hp hq ep eq h).2.2.1) M1 h1
    rwa [mvE_u (fun h => by rcases (mvM_at hp hq ep eq).mp h with h | h; exact b1 h; exact b2 h) ((mvU_at hp hq ep eq).mpr b3)] at this
  · have := he (fun h => by
      obtain ⟨_, _, _, y1, y2, m1, m2, f1, f2, h⟩ := mvG_at hp hq ep eq h
      have a1 := mv_inj (by omega) (by omega) e1 f1
      have a2 := mv_inj (by omega) (by omega) e2 f2
      subst a1; subst a2; exact g h) M1 h1
    rwa [mvE_b (fun h => by rcases (mvM_at hp hq ep eq).mp h with h | h; exact b1 h; exact b2 h) (fun h => (mvU_at hp hq ep eq).mp h b3)] at this
theorem m_move2 {s a o c v : Int32} (hS : SMc M)
    (hg : ∀ p q z1 z2 I J N : Nat, p < 4 → q < 4 → s = nI p → o = nI q → M 88 p = nI z1 → z1 ≤ 40 → M 88 q = nI z2 → z2 ≤ 40 → a = nI I → c = nI J → v = nI N → I + N ≤ z1 → J + N ≤ z2 → mvG (M 87) (M 88) s a o c v → ∀ M1, St (fun b => b == 89 || b == 90) M M1 → (∀ k, k < N → M1 89 (40 * q + J + k) = M 89 (40 * p + I + k)) → (∀ k, (k < 40 * q + J ∨ 40 * q + J + N ≤ k) → M1 89 k = M 89 k) → K v M1)
    (he : ¬ mvG (M 87) (M 88) s a o c v → ∀ M1, St SMx M M1 → K (mvE (M 87) s o) M1) : wp_X8_move s a o c v M K := by
  refine m_moveS hS (fun p q z1 z2 I J N hp hq ep eq e1 l1 e2 l2 b1 b2 b3 eI eJ eN k1 k2 => hg p q z1 z2 I J N hp hq ep eq e1 l1 e2 l2 eI eJ eN k1 k2 ⟨p, q, z1, z2, hp, hq, ep, eq, b1, b2, b3, e1, e2, l1, l2, ?_⟩) (fun g M1 h1 => ?_) (fun p q hp hq ep eq g M1 h1 => ?_) (fun p q hp hq ep eq b1 b2 b3 M1 h1 => ?_) (fun p q z1 z2 hp hq ep eq e1 l1 e2 l2 b1 b2 b3 g M1 h1 => ?_)
  · unfold MvG
    rw [eI, eJ, eN, nI_toInt (by omega), nI_toInt (by omega), nI_toInt (by omega)]; omega
  · have := he (fun ⟨p, q, _, _, hp, hq, ep, eq, _⟩ => g (mv_ok hp hq ep eq)) M1 h1
    rwa [mvE_b (fun ⟨p, q, hp, hq, ep, eq, _⟩ => g (mv_ok hp hq ep eq)) (fun ⟨p, q, hp, hq, ep, eq, _⟩ => g (mv_ok hp hq ep eq))] at this
  · have := he (fun h => by obtain ⟨b1, b2, -⟩ := mvG_at hp hq ep eq h; rcases g with g | g; exact b1 g; exact b2 g) M1 h1
    rwa [mvE_m ((mvM_at hp hq ep eq).mpr g)] at this
  · have := he (fun h => b3 (mvG_at hp hq ep eq h).2.2.1) M1 h1
    rwa [mvE_u (fun h => by rcases (mvM_at hp hq ep eq).mp h with h | h; exact b1 h; exact b2 h) ((mvU_at hp hq ep eq).mpr b3)] at this
  · have := he (fun h => by
      obtain ⟨_, _, _, y1, y2, m1, m2, f1, f2, h⟩ := mvG_at hp hq ep eq h
      have a1 := mv_inj (by omega) (by omega) e1 f1
      have a2 := mv_inj (by omega) (by omega) e2 f2
      subst a1; subst a2; exact g h) M1 h1
    rwa [mvE_b (fun h => by rcases (mvM_at hp hq ep eq).mp h with h | h; exact b1 h; exact b2 h) (fun h => (mvU_at hp hq ep eq).mp h b3)] at this
theorem z_move {s a o c v : Int32} (hI : Inv i M) : wp_X7_move s a o c v M (fun r1 M1 => wp_X8_move s a o c v M1 (fun r2 M2 => r1 = r2 ∧ Inv (i + 1) M2)) := by
  obtain ⟨n, b, t, hN⟩ := hI.2.1
  have hS := hI.2.2.1
  have eB : ∀ p : Nat, p < 4 → M (70 + 2 * p) 1 = M 87 p := fun p hp => by obtain ⟨z, hz, f1, f2, f3, f4⟩ := hS p hp; exact f3
  have eZ : ∀ p : Nat, p < 4 → M (70 + 2 * p) 2 = M 88 p := fun p hp => by obtain ⟨z, hz, f1, f2, f3, f4⟩ := hS p hp; rw [f1, f2]
  refine p_move2 hS.c (fun p q z1 z2 I J N hp hq ep eq e1 l1 e2 l2 eI eJ eN k1 k2 hG => ?_) (fun hG M1 h1 => ?_)
  · have em : ∀ c, c ≠ 71 + 2 * q → (upA M (71 + 2 * q) (va_cpy (M (71 + 2 * p)) (M (71 + 2 * q)) I J N)) c = M c := fun c hc => upA_o _ hc
    refine m_move2 (fun j hj => by rw [em 88 (by omega)]; exact hS.m j hj) (fun p' q' y1 y2 I' J' N' hp' hq' ep' eq' _ m1 _ m2 eI' eJ' eN' j1 j2 _ M2 d1 d2 d3 => ⟨rfl, ?_⟩) (fun g => absurd (by rw [em 87 (by omega), em 88 (by omega)]; exact mvG_congr eB eZ hG) g)
    have a1 := mv_inj (by omega) (by omega) ep ep'; have a2 := mv_inj (by omega) (by omega) eq eq'
    have a3 := mv_inj (by omega) (by omega) eI eI'; have a4 := mv_inj (by omega) (by omega) eJ eJ'; have a5 := mv_inj (by omega) (by omega) eN eN'
    subst a1; subst a2; subst a3; subst a4; subst a5
    have ed : ∀ c, c ≠ 89 → c ≠ 90 → M2 c = (upA M (71 + 2 * q') (va_cpy (M (71 + 2 * p')) (M (71 + 2 * q')) I' J' N')) c := fun c c1 c2 => d1 c (by simp [c1, c2])
    rw [em 89 (by omega)] at d2 d3
    refine inv_sh hI hN (fun x x1 x2 x3 x4 x5 => by rw [ed x x4 x5, em x (by omega)]) (fun k hk => ?_)
    obtain ⟨y, hy, f1, f2, f3, f4⟩ := hS k hk
    refine ⟨y, hy, by rw [ed _ (by omega) (by omega), em _ (by omega)]; exact f1, by rw [ed _ (by omega) (by omega), em _ (by omega)]; exact f2, by rw [ed _ (by omega) (by omega), em _ (by omega), ed _ (by omega) (by omega), em _ (by omega)]; exact f3, fun x hx => ?_⟩
    rw [ed (71 + 2 * k) (by omega) (by omega)]
    by_cases e : k = q'
    · subst e
      rw [upA_same]
      by_cases g : J' ≤ x ∧ x < J' + N'
      · rw [pk_cpy_in g.1 g.2]
        obtain ⟨y2, hy2, r1, r2, r3, r4⟩ := hS p' hp
        have := d2 (x - J') (by omega)
        rw [show 40 * k + J' + (x - J') = 40 * k + x by omega] at this
        rw [this, r4 _ (by omega), show 40 * p' + (I' + (x - J')) = 40 * p' + I' + (x - J') by omega]
      · rw [pk_cpy_out (by omega), d3 _ (by omega)]; exact f4 x hx
    · rw [em _ (by omega), d3 _ (by omega)]; exact f4 x hx
  · have em : ∀ c, 79 ≤ c → M1 c = M c := fun c hc => h1 c (by simp <;> omega)
    refine m_move2 (fun j hj => by rw [em 88 (by omega)]; exact hS.m j hj) (fun p q z1 z2 I J N hp hq ep eq e1 l1 e2 l2 eI eJ eN k1 k2 hG2 => absurd (by rw [em 87 (by omega), em 88 (by omega)] at hG2; exact mvG_congr (fun p hp => (eB p hp).symm) (fun p hp => (eZ p hp).symm) hG2) hG) (fun _ M2 h2 => ⟨?_, inv_th hI hN h1 h2⟩)
    rw [em 87 (by omega)]; exact mvE_congr eB
/-- a whole copied -/
theorem cp_whole {w o n b t : Nat} {K : Mem → Prop} (hw : WF w) (ho : WF o) (hd : w + 24 ≤ o ∨ o + 24 ≤ w) (h : WK o n b t M)
    (hk : ∀ M1, St (fun c => decide (w ≤ c) && decide (c ≤ w + 23)) M M1 → (∀ k, 3 ≤ k → k ≤ 8 → M1 (w + 11) k = M (o + 11) k) → (∀ q : Nat, q < n → ∀ k, k < 7 → M1 (w + 13 + q) k = M (o + 13 + q) k) → M1 w 5 = M o 5 → M1 w 6 = M o 6 → M1 w 7 = M o 7 → TX (w + 1) M1 → TX (w + 6) M1 → K M1) : wp_X6_copyFrom w o M K := by
  obtain ⟨a0, a1, a2, a3, a4, a5, a6, a7, a8, a9⟩ := hw
  obtain ⟨c0, c1, c2, c3, c4, c5, c6, c7, c8, c9⟩ := ho
  obtain ⟨h1, h2, h3, h4, h5, h6, h7, h8, h9⟩ := h
  unfold wp_X6_copyFrom
  simp only [a0, a1, a2, a3, a4, a5, a6, c0, c1, c2, c3, c4, c5, c6]
  refine cp_text a7 c7 (by omega) h8 (fun M1 s1 t1 => ?_)
  have k1 : ∀ c, (c < w + 1 ∨ w + 4 < c) → M1 c = M c := fun c hc => s1 c (by simp; omega)
  refine cp_text a8 c8 (by omega) (h9.keep (k1 _ (by omega)) (k1 _ (by omega)) (k1 _ (by omega)) (k1 _ (by omega))) (fun M2 s2 t2 => ?_)
  have k2 : ∀ c, (c < w + 6 ∨ w + 9 < c) → M2 c = M1 c := fun c hc => s2 c (by simp; omega)
  have kk : ∀ c, (c < w ∨ w + 10 < c) → M2 c = M c := fun c hc => by rw [k2 c (by omega), k1 c (by omega)]
  refine cp_ground a9 c9 (by omega) h1 (by rw [kk _ (by omega)]; exact h4) (fun q hq => by rw [show o + 11 + 2 + q = o + 13 + q by omega, kk _ (by omega)]; exact (h7 q hq).1) (fun M3 s3 g3 f3 => ?_)
  have k3 : ∀ c, (c < w + 11 ∨ w + 21 < c) → M3 c = M2 c := fun c hc => s3 c (by simp; omega)
  have k4 : ∀ c, (c < w ∨ w + 21 < c) → M3 c = M c := fun c hc => by rw [k3 c (by omega), kk c (by omega)]
  rw [k4 o (by omega), h5, nI_clamp (by omega)]
  refine ⟨by decide, by decide, nI_pos (by omega), by simp; omega, by simp; omega, ?_⟩
  rintro _ rfl
  simp only [upA_o o (show o ≠ w + 22 by omega), k4 o (by omega), h6, nI_clamp (show t < 2 ^ 31 by omega)]
  refine ⟨by decide, by decide, nI_pos (by omega), by simp; omega, by simp; omega, ?_⟩
  rintro _ rfl
  simp only [up_o o (show o ≠ w by omega), upA_o o (show o ≠ w + 22 by omega), upA_o o (show o ≠ w + 23 by omega), k4 o (by omega)]
  -- behind all that: rows below w + 22 but w
  have kz : ∀ (F G : Nat → Int32) (x y z : Int32) c, c ≠ w → c < w + 22 → (up (up (up (upA (upA M3 (w + 22) F) (w + 23) G) w 5 x) w 6 y) w 7 z) c = M3 c := fun F G x y z c hc hc2 => by
    rw [up_o _ hc, up_o _ hc, up_o _ hc, upA_o _ (by omega), upA_o _ (by omega)]
  rintro _ rfl
  refine hk _ ?_ (fun k l1 l2 => ?_) (fun q hq k l1 => ?_) ?_ ?_ ?_ ?_ ?_
  · exact ((((((s1.w (by simp <;> omega)).tr (s2.w (by simp <;> omega))).tr (s3.w (by simp <;> omega))).upA (by simp)).upA (by simp)).up (by simp)).up (by simp) |>.up (by simp)
  · rw [kz _ _ _ _ _ _ (by omega) (by omega), g3 k l1 l2, kk _ (by omega)]
  · rw [kz _ _ _ _ _ _ (by omega) (by omega), show w + 13 + q = w + 11 + 2 + q by omega, f3 q hq k l1, show o + 11 + 2 + q = o + 13 + q by omega, kk _ (by omega)]
  · rw [up_slot _ (by omega), up_slot _ (by omega), up_same]
  · rw [up_slot _ (by omega), up_same]
  · rw [up_same]
  · exact t1.keep (by rw [kz _ _ _ _ _ _ (by omega) (by omega), k3 _ (by omega), k2 _ (by omega)]) (by rw [kz _ _ _ _ _ _ (by omega) (by omega), k3 _ (by omega), k2 _ (by omega)]) (by rw [kz _ _ _ _ _ _ (by omega) (by omega), k3 _ (by omega), k2 _ (by omega)]) (by rw [kz _ _ _ _ _ _ (by omega) (by omega), k3 _ (by omega), k2 _ (by omega)])
  · exact t2.keep (by rw [kz _ _ _ _ _ _ (by omega) (by omega), k3 _ (by omega)]) (by rw [kz _ _ _ _ _ _ (by omega) (by omega), k3 _ (by omega)]) (by rw [kz _ _ _ _ _ _ (by omega) (by omega), k3 _ (by omega)]) (by rw [kz _ _ _ _ _ _ (by omega) (by omega), k3 _ (by omega)])
/-- what a copy of a whole is -/
theorem WK.copy {w o n b t : Nat} {M1 : Mem} (h : WK o n b t M) (h1 : ∀ k, 3 ≤ k → k ≤ 8 → M1 (w + 11) k = M (o + 11) k) (h2 : ∀ q : Nat, q < n → ∀ k, k < 7 → M1 (w + 13 + q) k = M (o + 13 + q) k) (h3 : M1 w 5 = M o 5) (h4 : M1 w 6 = M o 6) (h5 : TX (w + 1) M1) (h6 : TX (w + 6) M1) : WK w n b t M1 :=
  ⟨h.1, h.2.1, h.2.2.1, (h1 3 (by omega) (by omega)).trans h.2.2.2.1, h3.trans h.2.2.2.2.1, h4.trans h.2.2.2.2.2.1, fun q hq => by rw [h2 q hq 6 (by omega), h2 q hq 0 (by omega)]; exact h.2.2.2.2.2.2.1 q hq, h5, h6⟩
theorem RW2.copy {w o r r2 n : Nat} {M1 M2 : Mem} (h : RW2 o r n M) (h1 : ∀ k, 3 ≤ k → k ≤ 8 → M1 (w + 11) k = M (o + 11) k) (h2 : ∀ q : Nat, q < n → ∀ k, k < 7 → M1 (w + 13 + q) k = M (o + 13 + q) k) (h3 : M1 w 5 = M o 5) (h4 : M1 w 6 = M o 6) (h5 : M1 w 7 = M o 7) (hn : n ≤ 9) (e11 : M2 (w + 11) = M1 (w + 11)) (ew : M2 w = M1 w) (eq : ∀ q : Nat, q < n → M2 (w + 13 + q) = M1 (w + 13 + q)) (hr : ∀ k, k < 244 → M2 r2 k = M r k) : RW2 w r2 n M2 := by
  refine ⟨?_, ?_, ?_, ?_, fun q hq => ?_⟩
  · rw [e11, h1 6 (by omega) (by omega), hr 0 (by omega)]; exact h.1
  · rw [ew, h3, hr 3 (by omega)]; exact h.2.1
  · rw [ew, h4, hr 4 (by omega)]; exact h.2.2.1
  · rw [ew, h5, hr 1 (by omega)]; exact h.2.2.2.1
  · rw [eq q hq, h2 q hq 0 (by omega), h2 q hq 1 (by omega), h2 q hq 2 (by omega), hr _ (by omega), hr _ (by omega), hr _ (by omega)]; exact h.2.2.2.2 q hq
theorem RO.row {n : Nat} {f f1 : Nat → Int32} (h : RO n f) (hk : ∀ k, k < 244 → f1 k = f k) : RO n f1 := by
  have hn := h.1
  have ht : ∀ w, w < 2 → TO f w → TO f1 w := fun w hw hT => hT.same (hk _ (by omega)) (fun j hj => hk _ (by omega))
  exact ⟨hn, by rw [hk 2 (by omega)]; exact h.2.1, fun q hq => by rw [hk _ (by omega)]; exact h.2.2.1 q hq, ht 0 (by omega) h.2.2.2.1, ht 1 (by omega) h.2.2.2.2⟩
theorem z_image (hI : Inv i M) (hi : i < 2 ^ 29) : wp_X7_image M (fun r1 M1 => wp_X8_image M1 (fun r2 M2 => r1 = r2 ∧ Inv (i + 1) M2)) := by
  obtain ⟨n, b, t, hN⟩ := hI.2.1
  obtain ⟨m, n0, b0, t0, i1, i2, i3, i4, i5, i6, i7⟩ := hI.2.2.2.2
  have hn := hN.1.1
  unfold wp_X7_image
  refine cp_whole WF25 WF1 (by omega) hN.1 (fun M1 s1 g1 g2 g3 g4 g5 g6 g7 => ?_)
  have k1 : ∀ c, (c < 25 ∨ 48 < c) → M1 c = M c := fun c hc => s1 c (by simp; omega)
  rw [up_same, k1 0 (by omega), i2, nI_1]
  unfold wp_X8_image
  refine m_move rfl rfl (by decide) (fun M2 s2 r1 r2 => ?_)
  have k2 : ∀ c, c ≠ 81 → M2 c = (up M1 0 7 (nI (m + 1))) c := fun c hc => s2 c (by simp [hc])
  have e79 : ∀ k, M2 79 k = M 79 k := fun k => by rw [k2 _ (by omega), up_o _ (by omega), k1 _ (by omega)]
  have e4 : (up M2 79 3 1) 79 4 = nI m := by rw [up_slot _ (by omega), e79]; exact i3
  rw [up_same, e4, nI_1]
  have ke : ∀ c, c ≠ 0 → c ≠ 79 → c ≠ 81 → (c < 25 ∨ 48 < c) → (up (up M2 79 3 1) 79 4 (nI (m + 1))) c = M c := fun c c1 c2 c3 c4 => by
    rw [up_o _ c2, up_o _ c2, k2 c c3, up_o _ c1, k1 c c4]
  have kw : ∀ c, 25 ≤ c → c ≤ 48 → (up (up M2 79 3 1) 79 4 (nI (m + 1))) c = M1 c := fun c c1 c2 => by
    rw [up_o _ (by omega), up_o _ (by omega), k2 c (by omega), up_o _ (by omega)]
  have k81 : ∀ k, k < 244 → (up (up M2 79 3 1) 79 4 (nI (m + 1))) 81 k = M 80 k := fun k hk => by
    rw [up_cell (by omega), up_cell (by omega), r1 k hk, up_o _ (by omega), k1 80 (by omega)]
  refine ⟨rfl, hI.1.keep (ke _ (by omega) (by omega) (by omega) (by omega)), ⟨n, b, t, hN.oth (fun c c1 c2 _ _ => ke c (by omega) (by omega) (by omega) (by omega)) (ke _ (by omega) (by omega) (by omega) (by omega))⟩, hI.2.2.1.keep (fun c c1 c2 => ke c (by omega) (by omega) (by omega) (by omega)) (ke _ (by omega) (by omega) (by omega) (by omega)) (ke _ (by omega) (by omega) (by omega) (by omega)) (ke _ (by omega) (by omega) (by omega) (by omega)), hI.2.2.2.1.keep (ke _ (by omega) (by omega) (by omega) (by omega)) (ke _ (by omega) (by omega) (by omega) (by omega)) (ke _ (by omega) (by omega) (by omega) (by omega)) (by rw [up_slot _ (by omega), up_slot _ (by omega), e79]), m + 1, n, b, t, by omega, ?_, up_same, fun e => by omega, fun _ => ?_, ?_, fun _ => ⟨hN.2.1.row k81, ?_⟩⟩
  · rw [up_cell (by omega), up_cell (by omega), k2 0 (by omega), up_same]
  · rw [up_slot _ (by omega), up_same]
  · have h25 : WK 25 n b t M1 := hN.1.copy g1 g2 g3 g4 g6 g7
    exact h25.keep (fun c c1 c2 _ _ => kw c c1 (by omega))
  · exact hN.2.2.copy g1 g2 g3 g4 g5 hn (kw _ (by omega) (by omega)) (kw _ (by omega) (by omega)) (fun q hq => kw _ (by omega) (by omega)) k81
theorem z_restore (hI : Inv i M) (hi : i < 2 ^ 29) : wp_X7_restore M (fun r1 M1 => wp_X8_restore M1 (fun r2 M2 => r1 = r2 ∧ Inv (i + 1) M2)) := by
  obtain ⟨n, b, t, hN⟩ := hI.2.1
  obtain ⟨m, n0, b0, t0, i1, i2, i3, i4, i5, i6, i7⟩ := hI.2.2.2.2
  unfold wp_X7_restore
  rw [i2]
  refine ⟨fun q => ?_, fun q => e7 2 (by decide) (by decide) ?_⟩
  · have hm : m ≠ 0 := fun e => q (by rw [e]; rfl)
    obtain ⟨j1, j2⟩ := i7 hm
    refine cp_whole WF1 WF25 (by omega) i6 (fun M1 s1 g1 g2 g3 g4 g5 g6 g7 => ?_)
    have hn := i6.1
    have k1 : ∀ c, (c < 1 ∨ 24 < c) → M1 c = M c := fun c hc => s1 c (by simp; omega)
    unfold wp_X8_restore
    have e3 : M1 79 3 = 1 := by rw [k1 79 (by omega)]; exact i5 hm
    refine ⟨fun _ => ?_, fun g => absurd (e3.symm.trans g) (by decide)⟩
    refine m_move rfl rfl (by decide) (fun M2 s2 r1 r2 => ?_)
    have k2 : ∀ c, c ≠ 80 → M2 c = M1 c := fun c hc => s2 c (by simp [hc])
    have ke : ∀ c, c ≠ 80 → (c < 1 ∨ 24 < c) → M2 c = M c := fun c c1 c2 => by rw [k2 c c1, k1 c c2]
    have k80 : ∀ k, k < 244 → M2 80 k = M 81 k := fun k hk => by rw [r1 k hk, k1 81 (by omega)]
    refine ⟨?_, hI.rest (fun c hc => ke c (by simp at hc; omega) (by simp at hc; omega)) (by rw [ke 79 (by omega) (by omega)]) (by rw [ke 79 (by omega) (by omega)]) (by rw [ke 79 (by omega) (by omega)]) (n := n0) (b := b0) (t := t0) ⟨?_, j1.row k80, ?_⟩⟩
    · have : M1 (1 + 11) 6 = M (25 + 11) 6 := g1 6 (by omega) (by omega)
      rw [k80 0 (by omega), ← j2.1]; exact this
    · have h1 : WK 1 n0 b0 t0 M1 := i6.copy g1 g2 g3 g4 g6 g7
      exact h1.keep (fun c c1 c2 _ _ => k2 c (by omega))
    · exact j2.copy g1 g2 g3 g4 g5 hn (k2 _ (by omega)) (k2 _ (by omega)) (fun q hq => k2 _ (by omega)) k80
  · have hm : m = 0 := (nI_eq (a := m) (b := 0) (by omega) (by omega)).mp q
    have h1 : St SX M (up M 78 2 (M 78 2 + 1)) := St.rf.up rfl
    unfold wp_X8_restore
    have e3 : (up M 78 2 (M 78 2 + 1)) 79 3 = 0 := by rw [up_o _ (by omega)]; exact i4 hm
    exact ⟨fun g => absurd e3 g, fun _ => e8 2 (by decide) (by decide) ⟨rfl, inv_th hI hN h1 (St.rf.up rfl)⟩⟩
end ZV
