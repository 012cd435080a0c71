/-! the model's parser does as the grammar's function -/
def GS (T : Nat → Int32) (u m p k : Nat) (f : Nat → Nat) (o : Nat) (M0 M : Mem) : Prop :=
  PLt M0 M ∧ M0 79 8 = nI m ∧ m ≤ 50 ∧ M 79 7 = nI p ∧ p ≤ m ∧ M 79 10 = nI k ∧ k ≤ p ∧ M 79 9 = nI o ∧ o ≤ 5 ∧ M 79 11 = 1 ∧ (∀ j, j < m → M0 80 (74 + j) = T j) ∧ (u < 2 ∧ M0 79 6 = nI u) ∧ ∀ j, j < k → M 84 j = nI (f j)
def GR (T : Nat → Int32) (u m : Nat) (o : Nat) (M0 : Mem) (res : PRs) (M1 : Mem) : Prop :=
  (res.1 = true ∧ GS T u m res.2.1 res.2.2.1 res.2.2.2 o M0 M1) ∨ (res.1 = false ∧ PLt M0 M1 ∧ M1 79 11 = 0 ∧ M1 79 7 = nI res.2.1)
theorem lpS_enough {T : Nat → Int32} {m : Nat} {q : PS → PRs} {lev : Nat} (hl : lev < 5) (hq : GoodQ m q) : ∀ (w w2 : Nat) (r : PRs), r.2.1 ≤ m → m - r.2.1 ≤ w → m - r.2.1 ≤ w2 → lpS T m q lev w r = lpS T m q lev w2 r := by
  intro w
  induction w with
  | zero =>
    intro w2 r h h1 h2
    have : nx T m r.2.1 = -1 := if_neg (by omega)
    have hn : lvO (nx T m r.2.1) ≠ lev := by rw [this]; show (6 : Nat) ≠ lev; omega
    rw [lpS_no hn, lpS_no hn]
  | succ w ih =>
    intro w2 r h h1 h2
    obtain ⟨b0, p1, k1, f1⟩ := r
    by_cases e0 : b0 = true
    · subst e0
      by_cases e : lvO (nx T m p1) = lev
      · have hp1 := nx_lt (lvO_ne (x := nx T m p1) (by rw [e]; exact hl))
        obtain ⟨w3, rfl⟩ : ∃ w3, w2 = w3 + 1 := ⟨w2 - 1, by have : m - p1 ≤ w2 := h2; omega⟩
        have hg := hq (p1 + 1, k1, f1) hp1
        have hg1 : p1 + 1 ≤ (q (p1 + 1, k1, f1)).2.1 := hg.1
        by_cases e2 : (q (p1 + 1, k1, f1)).1 = true
        · rw [lpS_yes e e2, lpS_yes e e2]
          have h1' : m - p1 ≤ w + 1 := h1
          have h2' : m - p1 ≤ w3 + 1 := h2
          exact ih w3 _ hg.2.1 (by show m - (q (p1 + 1, k1, f1)).2.1 ≤ w; omega) (by show m - (q (p1 + 1, k1, f1)).2.1 ≤ w3; omega)
        · have e3 : (q (p1 + 1, k1, f1)).1 = false := by simpa using e2
          rw [lpS_yesbad e e3, lpS_yesbad e e3]
      · rw [lpS_no e, lpS_no e]
    · have e1 : b0 = false := by simpa using e0
      rw [lpS_bad e1, lpS_bad e1]
section GG
variable {T : Nat → Int32} {u m p k : Nat} {f : Nat → Nat} {o : Nat} {M0 M : Mem}
theorem GS.go (h : GS T u m p k f o M0 M) (ha : p < m) : GS T u m (p + 1) k f o M0 (up M 79 7 (M 79 7 + 1)) := by
  obtain ⟨h1, h2, h3, h4, h5, h6, h7, h8, h9, h10, h11, h12, h13⟩ := h
  exact ⟨h1.up79 (by omega), h2, h3, by rw [up_same, h4, nI_1], by omega, by rw [up_slot _ (by decide)]; exact h6, by omega, by rw [up_slot _ (by decide)]; exact h8, h9, by rw [up_slot _ (by decide)]; exact h10, h11, h12, fun j hj => by rw [up_cell (by decide)]; exact h13 j hj⟩
theorem GS.opn {o2 : Nat} {x : Int32} (h : GS T u m p k f o M0 M) (hx : x = nI o2) (ho : o2 ≤ 5) : GS T u m p k f o2 M0 (up M 79 9 x) := by
  obtain ⟨h1, h2, h3, h4, h5, h6, h7, h8, h9, h10, h11, h12, h13⟩ := h
  exact ⟨h1.up79 (by omega), h2, h3, by rw [up_slot _ (by decide)]; exact h4, h5, by rw [up_slot _ (by decide)]; exact h6, h7, by rw [up_same]; exact hx, ho, by rw [up_slot _ (by decide)]; exact h10, h11, h12, fun j hj => by rw [up_cell (by decide)]; exact h13 j hj⟩
theorem GS.one {x : Int32} (h : GS T u m p k f o M0 M) (hx : x = 1) : GS T u m p k f o M0 (up M 79 11 x) := by
  obtain ⟨h1, h2, h3, h4, h5, h6, h7, h8, h9, h10, h11, h12, h13⟩ := h
  exact ⟨h1.up79 (by omega), h2, h3, by rw [up_slot _ (by decide)]; exact h4, h5, by rw [up_slot _ (by decide)]; exact h6, h7, by rw [up_slot _ (by decide)]; exact h8, h9, by rw [up_same]; exact hx, h11, h12, fun j hj => by rw [up_cell (by decide)]; exact h13 j hj⟩
theorem GS.bad {x : Int32} (h : GS T u m p k f o M0 M) (hx : x = 0) {o2 : Nat} {s : Nat × (Nat → Nat)} : GR T u m o2 M0 (false, p, s) (up M 79 11 x) := Or.inr ⟨rfl, h.1.up79 (by omega), by rw [up_same, hx], by rw [up_slot _ (by decide)]; exact h.2.2.2.1⟩
theorem g_byte {K : Int32 → Mem → Prop} (h : GS T u m p k f o M0 M) (hk : K (nx T m p) M) : wp_X8_byteAt (M 79 7) M K := by
  obtain ⟨h1, h2, h3, h4, h5, h6, h7, h8, h9, h10, h11, h12, h13⟩ := h
  unfold wp_X8_byteAt
  have e8 : M 79 8 = nI m := (h1.2 8 (by decide) (by decide) (by decide) (by decide)).trans h2
  unfold nx at hk
  rw [e8, h4]
  refine pk_le m p (fun q => ?_) (fun q => ?_)
  · rw [if_neg (by omega)] at hk; exact hk
  · have e80 : M 80 = M0 80 := h1.1 80 rfl
    rw [if_pos q] at hk
    rw [show (74 : Int32) = nI 74 from rfl, nI_add, nI_clamp (by omega), e80, h11 p q]
    exact ⟨vp_in_nI (by omega) (by decide), hk⟩
theorem g_digit {x : Int32} {K : Int32 → Mem → Prop} (h1 : isD x = true → K 1 M) (h0 : ¬ isD x = true → K 0 M) : wp_X8_isDigit x M K := by
  unfold wp_X8_isDigit
  refine w8 48 57 (by decide) (by decide) (fun g1 g2 => ⟨Or.inr rfl, h1 ?_⟩) (fun g => ⟨Or.inl rfl, h0 ?_⟩)
  · simp [isD, g1, g2]
  · intro e; simp [isD] at e; exact g e
theorem g_adds {x : Int32} {v : Nat} {K : Mem → Prop} (h : GS T u m p k f o M0 M) (hs : k + 1 ≤ p) (hx : x = nI v) (hk : ∀ M1, GS T u m p (k + 1) (adf f k v) o M0 M1 → K M1) : wp_X8_adds x M K := by
  obtain ⟨h1, h2, h3, h4, h5, h6, h7, h8, h9, h10, h11, h12, h13⟩ := h
  unfold wp_X8_adds
  refine ⟨fun q => absurd (h10.symm.trans q) (by decide), fun _ => ?_⟩
  rw [h6, nI_clamp (by omega), up_cell (by decide), h6, nI_1]
  have hr : ∀ j, j ≠ 10 → up (up M 84 k x) 79 10 (nI (k + 1)) 79 j = M 79 j := fun j hj => by rw [up_slot _ hj, up_cell (by decide)]
  refine ⟨vp_in_nI (by omega) (by decide), hk _ ⟨⟨(h1.1.up rfl).up rfl, fun j k1 k2 k3 k4 => by rw [hr j k3]; exact h1.2 j k1 k2 k3 k4⟩, h2, h3, by rw [hr _ (by decide)]; exact h4, h5, up_same, hs, by rw [hr _ (by decide)]; exact h8, h9, by rw [hr _ (by decide)]; exact h10, h11, h12, fun j hj => ?_⟩⟩
  rw [up_cell (by decide)]
  rcases Nat.lt_or_ge j k with c | c
  · rw [up_slot _ (by omega), adf_o (by omega)]; exact h13 j c
  · have : j = k := by omega
    subst this
    rw [up_same, adf_s, hx]
theorem g_number {K : Mem → Prop} (h : GS T u m p k f o M0 M) (hd : isD (nx T m p) = true) (hk : ∀ M1, GR T u m o M0 (true, (numS T m 4 0 p).2, k + 1, adf f k (numS T m 4 0 p).1) M1 → K M1) : wp_X8_number M K := by
  unfold wp_X8_number
  refine loopNA (L := fun n a i M' => wp_X8_number_L4 K n a i M') 4 (fun i a M' => GS T u m (p + i) k f o M0 M' ∧ ∃ w : Nat, a = nI w ∧ w < 10 ^ i ∧ numS T m (4 - i) w (p + i) = numS T m 4 0 p) ?_ 0 (Nat.zero_le _) ⟨h, 0, rfl, by decide, rfl⟩
  intro i a M' n hi hs ih
  obtain ⟨hs, w, rfl, hw, hn⟩ := hs
  show wp_X8_number_l4 K (wp_X8_number_L4 K n) (nI w) (nI i) M'
  unfold wp_X8_number_l4
  have fin : 1 ≤ i → numS T m (4 - i) w (p + i) = (w, p + i) → wp_X8_adds (nI w) M' (fun M1 => K M1) := fun h1 h2 => by
    have hkp := h.2.2.2.2.2.2.1
    refine g_adds (v := w) hs (by omega) rfl (fun M1 hM => hk _ (Or.inl ⟨rfl, ?_⟩))
    have e : numS T m 4 0 p = (w, p + i) := hn.symm.trans h2
    rw [e]
    exact hM
  refine ⟨fun q => ?_, fun q => ?_⟩
  · have h4 := le_of_nI (a := 4) q (by omega) (by omega)
    have : i = 4 := by omega
    subst this
    exact fin (by omega) rfl
  · have hi4 : i < 4 := lt_of_nI (a := 4) q (by omega) (by omega)
    obtain ⟨j, hj⟩ : ∃ j, 4 - i = j + 1 := ⟨3 - i, by omega⟩
    refine g_byte hs (g_digit (fun g1 => b1a ?_) (fun g1 => b0a ?_))
    · refine g_byte hs ?_
      have hp := nx_lt (isD_ne g1)
      have g2 := g1
      simp only [isD, Bool.and_eq_true, decide_eq_true_eq] at g2
      obtain ⟨c, hc, ec⟩ := nat_of (x := nx T m (p + i)) 57 (by omega) g2.2 (by decide)
      have hc48 : 48 ≤ c := by
        have := g2.1
        rw [ec, nI_toInt (by omega)] at this
        omega
      have ev : (10 : Int32) * nI w + nI c - 48 = nI (10 * w + (c - 48)) := by
        rw [show (10 : Int32) = nI 10 from rfl, show (48 : Int32) = nI 48 from rfl, pk_mul, nI_add, pk_sub (by omega)]
        congr 1; omega
      have hn2 : numS T m (4 - (i + 1)) (10 * w + (c - 48)) (p + (i + 1)) = numS T m 4 0 p := by
        rw [← hn, hj]
        show _ = (if isD (nx T m (p + i)) = true then numS T m j (10 * w + ((nx T m (p + i)).toNatClampNeg - 48)) (p + i + 1) else (w, p + i))
        rw [if_pos g1, ec, nI_clamp (by omega), show 4 - (i + 1) = j by omega]
        rfl
      rw [ec, ev, nI_1]
      refine ih _ _ hi4 ⟨by have := hs.go hp; rwa [Nat.add_assoc] at this, _, rfl, ?_, hn2⟩
      rw [Nat.pow_succ]; omega
    · refine fin ?_ ?_
      · rcases Nat.eq_zero_or_pos i with e | e
        · subst e; exact absurd hd g1
        · exact e
      · rw [hj]
        show (if isD (nx T m (p + i)) = true then _ else (w, p + i)) = _
        rw [if_neg g1]
theorem g_named {K : Mem → Prop} (h : GS T u m p k f o M0 M) (h1 : nmO u (nx T m p) < 3 → ∀ M1, GR T u m o M0 (true, p + 1, k + 1, adf f k (10000 + nmO u (nx T m p))) M1 → K M1) (h0 : ¬ nmO u (nx T m p) < 3 → ∀ M1, GR T u m o M0 (false, p, k, f) M1 → K M1) : wp_X8_named (nx T m p) M K := by
  have eu : M 79 6 = nI u := (h.1.2 6 (by decide) (by decide) (by decide) (by decide)).trans h.2.2.2.2.2.2.2.2.2.2.2.1.2
  have hu2 := h.2.2.2.2.2.2.2.2.2.2.2.1.1
  have hkp := h.2.2.2.2.2.2.1
  generalize hc : nx T m p = c at h1 h0 ⊢
  have no : ∀ x y, nmO u c = 3 → wp_X8_named_b68 K x y 0 M := fun x y e => by
    unfold wp_X8_named_b68
    exact ⟨Or.inl rfl, fun _ => h0 (by omega) _ (h.bad rfl), fun q => absurd up_same q⟩
  have yes : ∀ (x y : Int32) (v : Nat), v < 3 → nmO u c = v → (¬ x = 0 → v = 0) → (x = 0 → ¬ y = 0 → v = 1) → (x = 0 → y = 0 → v = 2) → wp_X8_named_b68 K x y 1 M := fun x y v hv e c0 c1 c2 => by
    have hp : p < m := nx_lt (by rw [hc]; exact nmO_ne (u := u) (by rw [e]; exact hv))
    unfold wp_X8_named_b68
    have hS := h.one (x := 1) rfl
    have hG := hS.go hp
    have fin : ∀ w : Nat, w = v → ∀ y : Int32, y = nI (10000 + w) → wp_X8_adds y (up (up M 79 11 1) 79 7 ((up M 79 11 1) 79 7 + 1)) (fun M1 => K M1) := fun w hw y hy => by
      subst hw
      refine g_adds (v := 10000 + w) hG (by omega) hy (fun M1 hM => h1 (by omega) _ (Or.inl ⟨rfl, ?_⟩))
      rw [e]; exact hM
    refine ⟨Or.inr rfl, fun q => absurd (up_same.symm.trans q) (by decide), fun _ => ⟨fun a => ⟨fun b => fin 2 (c2 a b).symm _ rfl, fun b => fin 1 (c1 a b).symm _ rfl⟩, fun a => fin 0 (c0 a).symm _ rfl⟩⟩
  have z1 : ¬ (1 : Int32) = 0 := by decide
  have third : ∀ t : Int32, t = (if u = 0 then 100 else 109) → ¬ c = 101 → ¬ c = 97 → wp_X8_named_b39 K 0 0 t c M := fun t ht a b => by
    unfold wp_X8_named_b39
    have e : nmO u c = if c = t then 2 else 3 := by unfold nmO; rw [if_neg a, if_neg b, ht]
    exact ⟨fun q => ⟨fun r => absurd rfl r, fun _ => ⟨fun r => absurd rfl r, fun _ => no _ _ (by rw [e, if_neg q])⟩⟩, fun q => ⟨fun r => absurd rfl r, fun _ => ⟨fun r => absurd rfl r, fun _ => yes _ _ 2 (by omega) (by rw [e, if_pos q]) (fun r => absurd rfl r) (fun _ r => absurd rfl r) (fun _ _ => rfl)⟩⟩⟩
  have second : ∀ t : Int32, c = 97 → wp_X8_named_b39 K 0 1 t c M := fun t b => by
    unfold wp_X8_named_b39
    have a : ¬ c = 101 := by rw [b]; decide
    have e : nmO u c = 1 := by unfold nmO; rw [if_neg a, if_pos b]
    have y := yes 0 1 1 (by omega) e (fun r => absurd rfl r) (fun _ _ => rfl) (fun _ r => absurd r z1)
    exact ⟨fun q => ⟨fun r => absurd rfl r, fun _ => ⟨fun _ => y, fun r => absurd r z1⟩⟩, fun q => ⟨fun r => absurd rfl r, fun _ => ⟨fun _ => y, fun r => absurd r z1⟩⟩⟩
  have first : ∀ (y t : Int32), c = 101 → wp_X8_named_b39 K 1 y t c M := fun y t a => by
    unfold wp_X8_named_b39
    have e : nmO u c = 0 := by unfold nmO; rw [if_pos a]
    have y := yes 1 y 0 (by omega) e (fun _ => rfl) (fun r => absurd r z1) (fun r => absurd r z1)
    exact ⟨fun q => ⟨fun _ => y, fun r => absurd r z1⟩, fun q => ⟨fun _ => y, fun r => absurd r z1⟩⟩
  have hu0 : ∀ P Q : Prop, (u = 0 → Q) → (¬ u = 0 → P) → (¬ nI u = 0 → P) ∧ (nI u = 0 → Q) := fun P Q hq hp => ⟨fun r => hp (fun e => r (by rw [e]; rfl)), fun r => hq ((nI_eq (a := u) (b := 0) (by omega) (by omega)).mp r)⟩
  unfold wp_X8_named wp_X8_named_b11
  rw [eu]
  exact ⟨fun a => ⟨fun b => hu0 _ _ (fun e => third _ (by rw [if_pos e]) a b) (fun e => third _ (by rw [if_neg e]) a b), fun b => hu0 _ _ (fun _ => second _ b) (fun _ => second _ b)⟩, fun a => ⟨fun b => hu0 _ _ (fun _ => first _ _ a) (fun _ => first _ _ a), fun b => hu0 _ _ (fun _ => first _ _ a) (fun _ => first _ _ a)⟩⟩
end GG
