/-- exact answers: what a text is worth -/
theorem ifK {P : Prop} [Decidable P] {a b : Int32} {M : Mem} {K : Int32 → Mem → Prop} (h : K (if P then a else b) M) : (P → K a M) ∧ (¬ P → K b M) := ⟨fun q => by rwa [if_pos q] at h, fun q => by rwa [if_neg q] at h⟩
def jn (c : Nat) (x y : Int32) : Int32 :=
  if c = 37 then (if y = 0 then 0 else x - x / y * y) else if c = 38 then (if x = 0 then 0 else if y = 0 then 0 else 1) else if c = 42 then x * y else if c = 43 then x + y else if c = 45 then x - y else if c = 47 then (if y = 0 then 0 else x / y) else if c = 60 then (if y ≤ x then 0 else 1) else if c = 61 then (if x = y then 1 else 0) else if c = 62 then (if x ≤ y then 0 else 1) else if c = 124 then (if x = 0 then (if y = 0 then 0 else 1) else 1) else (if x = 0 then 1 else 0)
def isSg (c : Nat) : Prop := c = 37 ∨ c = 38 ∨ c = 42 ∨ c = 43 ∨ c = 45 ∨ c = 47 ∨ c = 60 ∨ c = 61 ∨ c = 62 ∨ c = 124
theorem isSg.lt {c : Nat} (h : isSg c) : c < 125 := by
  rcases h with h | h | h | h | h | h | h | h | h | h <;> omega
theorem x_jn {c : Nat} {x y : Int32} {M : Mem} {K : Int32 → Mem → Prop} (hc : isSg c ∨ c = 33) (h : K (jn c x y) M) : wp_X4_joined (nI c) x y M K := by
  unfold wp_X4_joined
  rcases hc with (rfl | rfl | rfl | rfl | rfl | rfl | rfl | rfl | rfl | rfl) | rfl
  all_goals repeat (first | refine ⟨fun q => absurd q (by decide), fun _ => ?_⟩ | refine ⟨fun _ => ?_, fun q => absurd rfl q⟩)
  · have g := ifK (show K (if y = 0 then 0 else x - x / y * y) M from h)
    exact ⟨fun q => ⟨q, g.2 q⟩, g.1⟩
  · have g := ifK (show K (if x = 0 then 0 else if y = 0 then 0 else 1) M from h)
    exact ⟨g.1, fun q => ifK (g.2 q)⟩
  · exact h
  · exact h
  · exact h
  · have g := ifK (show K (if y = 0 then 0 else x / y) M from h)
    exact ⟨fun q => ⟨q, g.2 q⟩, g.1⟩
  · exact ifK (show K (if y ≤ x then 0 else 1) M from h)
  · have g := ifK (show K (if x = y then 1 else 0) M from h)
    exact ⟨g.2, g.1⟩
  · exact ifK (show K (if x ≤ y then 0 else 1) M from h)
  · have g := ifK (show K (if x = 0 then (if y = 0 then 0 else 1) else 1) M from h)
    exact ⟨g.2, fun q => ifK (g.1 q)⟩
  · have g := ifK (show K (if x = 0 then 1 else 0) M from h)
    exact ⟨g.2, g.1⟩
theorem m_jn {c : Nat} {x y : Int32} {M : Mem} {K : Int32 → Mem → Prop} (hc : isSg c) (h : K (jn c x y) M) : wp_X8_workedOut (nI c) x y M K := by
  unfold wp_X8_workedOut
  rcases hc with rfl | rfl | rfl | rfl | rfl | rfl | rfl | rfl | rfl | rfl
  all_goals repeat (first | refine ⟨fun q => absurd q (by decide), fun _ => ?_⟩ | refine ⟨fun _ => ?_, fun q => absurd rfl q⟩)
  · have g := ifK (show K (if y = 0 then 0 else x - x / y * y) M from h)
    exact ⟨fun q => ⟨q, g.2 q⟩, g.1⟩
  · have g := ifK (show K (if x = 0 then 0 else if y = 0 then 0 else 1) M from h)
    exact ⟨g.1, fun q => ifK (g.2 q)⟩
  · exact h
  · exact h
  · exact h
  · have g := ifK (show K (if y = 0 then 0 else x / y) M from h)
    exact ⟨fun q => ⟨q, g.2 q⟩, g.1⟩
  · exact ifK (show K (if y ≤ x then 0 else 1) M from h)
  · have g := ifK (show K (if x = y then 1 else 0) M from h)
    exact ⟨g.2, g.1⟩
  · exact ifK (show K (if x ≤ y then 0 else 1) M from h)
  · have g := ifK (show K (if x = 0 then (if y = 0 then 0 else 1) else 1) M from h)
    exact ⟨g.2, fun q => ifK (g.1 q)⟩
/-- a node's value out of those before it; all values in their order -/
def nodeV (S L R : Nat → Int32) (a b c : Int32) (v : Nat → Int32) (k : Nat) : Int32 :=
  if S k = 48 then L k else if S k = 110 then (if L k = 0 then a else if L k = 1 then b else c) else jn (S k).toNatClampNeg (v (L k).toNatClampNeg) (v (R k).toNatClampNeg)
def ev (S L R : Nat → Int32) (a b c : Int32) : Nat → Nat → Int32
  | 0 => fun _ => 0
  | k + 1 => fun j => if j = k then nodeV S L R a b c (ev S L R a b c k) k else ev S L R a b c k j
def vl (S L R : Nat → Int32) (a b c : Int32) (j : Nat) : Int32 := nodeV S L R a b c (ev S L R a b c j) j
theorem ev_lt {S L R : Nat → Int32} {a b c : Int32} {j k : Nat} (h : j < k) : ev S L R a b c k j = vl S L R a b c j := by
  induction k with
  | zero => omega
  | succ k ih =>
    show (if j = k then nodeV S L R a b c (ev S L R a b c k) k else ev S L R a b c k j) = _
    by_cases e : j = k
    · rw [if_pos e, e]; rfl
    · rw [if_neg e]; exact ih (by omega)
theorem vl_num {S L R : Nat → Int32} {a b c : Int32} {j : Nat} (h : S j = 48) : vl S L R a b c j = L j := by
  unfold vl nodeV; rw [if_pos h]
theorem vl_name {S L R : Nat → Int32} {a b c : Int32} {j : Nat} (h : S j = 110) : vl S L R a b c j = (if L j = 0 then a else if L j = 1 then b else c) := by
  unfold vl nodeV; rw [if_neg (by rw [h]; decide), if_pos h]
theorem vl_jn {S L R : Nat → Int32} {a b c : Int32} {j s e1 e2 : Nat} (hs : isSg s ∨ s = 33) (h : S j = nI s) (h1 : L j = nI e1) (h2 : R j = nI e2) (l1 : e1 < j) (l2 : e2 < j) (hj : j < 2 ^ 30) : vl S L R a b c j = jn s (vl S L R a b c e1) (vl S L R a b c e2) := by
  have lt : s < 125 := by
    rcases hs with hs | hs
    · exact hs.lt
    · omega
  have n1 : ¬ S j = 48 := by
    rw [h]; intro q
    have := (nI_eq (a := s) (b := 48) (by omega) (by omega)).mp q
    subst this; revert hs; unfold isSg; omega
  have n2 : ¬ S j = 110 := by
    rw [h]; intro q
    have := (nI_eq (a := s) (b := 110) (by omega) (by omega)).mp q
    subst this; revert hs; unfold isSg; omega
  unfold vl nodeV
  rw [if_neg n1, if_neg n2, h, h1, h2, nI_clamp (by omega), nI_clamp (by omega), nI_clamp (by omega), ev_lt l1, ev_lt l2]
  rfl
/-- a class' text in order: each node joins nodes before it -/
def ND (S L R : Nat → Int32) (j : Nat) : Prop := S j = 48 ∨ S j = 110 ∨ ∃ s e1 e2 : Nat, (isSg s ∨ s = 33) ∧ S j = nI s ∧ e1 < j ∧ e2 < j ∧ L j = nI e1 ∧ R j = nI e2
def TC (t z : Nat) (M : Mem) : Prop := 1 ≤ z ∧ z ≤ 50 ∧ M t 5 = nI z ∧ ∀ j, j < z → ND (M (t + 1)) (M (t + 2)) (M (t + 3)) j
theorem e_worked {t z : Nat} (hF : TF t) {a b c : Int32} {M : Mem} {K : Int32 → Mem → Prop} (hT : TC t z M) (h : ∀ M1, St (SV t) M M1 → K (vl (M (t + 1)) (M (t + 2)) (M (t + 3)) a b c (z - 1)) M1) : wp_X4_workedOut t a b c M K := by
  obtain ⟨hz0, hz, ez, hj⟩ := hT
  obtain ⟨f0, f1, f2, f3, g0, g1, g2, g3⟩ := hF
  unfold wp_X4_workedOut
  refine loopN (L := fun n i M => wp_X4_workedOut_L3 K t a b c n i M) z (fun i M' => St (SV t) M M' ∧ ∀ j, j < i → M' (t + 4) j = vl (M (t + 1)) (M (t + 2)) (M (t + 3)) a b c j) ?_ 0 (Nat.zero_le _) ⟨St.rf, fun j hj => absurd hj (Nat.not_lt_zero j)⟩
  intro i M' n hi hs ih
  obtain ⟨hs, hv⟩ := hs
  show wp_X4_workedOut_l3 K t a b c (wp_X4_workedOut_L3 K t a b c n) (nI i) M'
  unfold wp_X4_workedOut_l3
  have et : M' t = M t := hs t (by simp)
  have e1 : M' (t + 1) = M (t + 1) := hs _ (by simp)
  have e2 : M' (t + 2) = M (t + 2) := hs _ (by simp)
  have e3 : M' (t + 3) = M (t + 3) := hs _ (by simp)
  simp only [f0, f1, f2, f3, g0, g1, g2, g3, et, e1, e2, e3, ez]
  refine ⟨fun q => ⟨?_, ?_⟩, fun q => ?_⟩
  · obtain ⟨z1, rfl⟩ : ∃ z1, z = z1 + 1 := ⟨z - 1, by omega⟩
    rw [nI_pred]; exact vp_in_nI (by omega) (by decide)
  · have hzi : z ≤ i := le_of_nI q (by omega) (by omega)
    obtain ⟨z1, rfl⟩ : ∃ z1, z = z1 + 1 := ⟨z - 1, by omega⟩
    rw [nI_pred, nI_clamp (by omega), hv z1 (by omega)]
    exact h _ hs
  · have hi2 : i < z := lt_of_nI q (by omega) (by omega)
    have hvp : vp_in (nI i) 50 := vp_in_nI (by omega) (by decide)
    have hk : ∀ x, x = vl (M (t + 1)) (M (t + 2)) (M (t + 3)) a b c i → wp_X4_workedOut_L3 K t a b c n (nI i + 1) (up M' (t + 4) i x) := fun x ex => by
      rw [nI_1]
      refine ih _ hi2 ⟨hs.up (by simp), fun j hj2 => ?_⟩
      by_cases e : j = i
      · subst e; rw [up_same]; exact ex
      · rw [up_slot _ e]; exact hv j (by omega)
    rw [nI_clamp (by omega)]
    have hn := hj i hi2
    refine ⟨hvp, hvp, ⟨fun q1 => ⟨hvp, ⟨fun q2 => ⟨hvp, ?_⟩, fun q2 => ?_⟩⟩, fun q1 => ⟨hvp, hk _ (vl_num q1).symm⟩⟩⟩
    · rcases hn with e | e | ⟨s, x1, x2, i1, i2, i3, i4, i5, i6⟩
      · exact absurd e q1
      · exact absurd e q2
      · rw [i2, i5, i6, nI_clamp (by omega), nI_clamp (by omega), hv x1 i3, hv x2 i4]
        exact ⟨vp_in_nI (by omega) (by decide), hvp, vp_in_nI (by omega) (by decide), x_jn i1 ⟨hvp, hk _ (vl_jn i1 i2 i5 i6 i3 i4 (by omega)).symm⟩⟩
    · refine ⟨fun q3 => ⟨fun q4 => ⟨hvp, hk _ ?_⟩, fun q4 => ⟨hvp, hk _ ?_⟩⟩, fun q3 => ⟨hvp, hk _ ?_⟩⟩
      · rw [vl_name q2, if_neg q3, if_neg q4]
      · rw [vl_name q2, if_neg q3, if_pos q4]
      · rw [vl_name q2, if_pos q3]
/-- held between 0 and 99 -/
def cl99 (v : Int32) : Int32 := if 0 < (if v < 99 then v else 99) then (if v < 99 then v else 99) else 0
/-- what a text gives -/
def tv (t : Nat) (M : Mem) (a b c : Int32) : Int32 := cl99 (if M t 5 ≤ 0 then (if M t 4 = 0 then 20 else 9 - a / 11) else vl (M (t + 1)) (M (t + 2)) (M (t + 3)) a b c ((M t 5).toNatClampNeg - 1))
theorem tv_keep {t : Nat} {M M1 : Mem} (e0 : M1 t = M t) (e1 : M1 (t + 1) = M (t + 1)) (e2 : M1 (t + 2) = M (t + 2)) (e3 : M1 (t + 3) = M (t + 3)) : tv t M1 = tv t M := by
  funext a b c; unfold tv; rw [e0, e1, e2, e3]
theorem e_gives {t : Nat} (hF : TF t) {a b c : Int32} {M : Mem} {K : Int32 → Mem → Prop} (hT : M t 5 = 0 ∨ ∃ z, TC t z M) (h : ∀ M1, St (SV t) M M1 → K (tv t M a b c) M1) : wp_X4_gives t a b c M K := by
  unfold wp_X4_gives
  refine ⟨fun q => ⟨fun q1 => ?_, fun q1 => ?_⟩, fun q => ?_⟩
  · have := h _ St.rf
    unfold tv at this
    rw [if_pos q, if_neg q1] at this
    exact this
  · have := h _ St.rf
    unfold tv at this
    rw [if_pos q, if_pos q1] at this
    exact this
  · rcases hT with e | ⟨z, hT⟩
    · rw [e] at q; exact absurd (by decide) q
    · refine e_worked hF hT (fun M1 hs => ?_)
      have := h _ hs
      unfold tv at this
      rw [if_neg q, hT.2.2.1, nI_clamp (by have := hT.2.1; omega)] at this
      exact this
theorem m_held99 {v : Int32} {M : Mem} {K : Int32 → Mem → Prop} (h : K (cl99 v) M) : wp_X8_held v 0 99 M K := by
  have h0 : (0 : Int32).toInt = 0 := rfl
  have h9 : (99 : Int32).toInt = 99 := rfl
  have lt : ∀ a b : Int32, a < b ↔ a.toInt < b.toInt := fun a b => Int32.lt_iff_toInt_lt
  have le : ∀ a b : Int32, a ≤ b ↔ a.toInt ≤ b.toInt := fun a b => Int32.le_iff_toInt_le
  unfold wp_X8_held
  refine ⟨fun q => ⟨fun q1 => ?_, fun q1 => ?_⟩, fun q => ?_⟩
  · rw [le, h0] at q
    rw [le, h9] at q1
    have e : cl99 v = v := by
      unfold cl99
      by_cases g : v < 99
      · simp only [if_pos g]
        by_cases g0 : 0 < v
        · rw [if_pos g0]
        · rw [if_neg g0]
          rw [lt, h0] at g0
          exact Int32.toInt_inj.mp (by rw [h0]; omega)
      · simp only [if_neg g]
        rw [lt, h9] at g
        have : v = 99 := Int32.toInt_inj.mp (by rw [h9]; omega)
        rw [this]; decide
    rw [e] at h; exact h
  · rw [le, h9] at q1
    have e : cl99 v = 99 := by
      unfold cl99
      have g : ¬ v < 99 := by rw [lt, h9]; omega
      simp only [if_neg g]; decide
    rw [e] at h; exact h
  · rw [le, h0] at q
    have e : cl99 v = 0 := by
      unfold cl99
      have g : v < 99 := by rw [lt, h9]; omega
      have g0 : ¬ 0 < v := by rw [lt, h0]; omega
      simp only [if_pos g, if_neg g0]
    rw [e] at h; exact h
