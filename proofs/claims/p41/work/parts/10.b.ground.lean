/-- the places of a ground that thinks or lives: its texts are 2 and 7 -/
def GF (g : Nat) : Prop := rf g 0 = 2 ∧ rf g 1 = 7 ∧ rf g 2 = g + 1 ∧ ln (g + 1) = 9 ∧ (∀ q : Nat, q < 9 → rf (g + 1) q = g + 2 + q) ∧ (g = 12 ∨ g = 49)
theorem GF12 : GF 12 := ⟨rfl, rfl, rfl, rfl, by decide +kernel, Or.inl rfl⟩
theorem GF49 : GF 49 := ⟨rfl, rfl, rfl, rfl, by decide +kernel, Or.inr rfl⟩
theorem GF.one {g : Nat} (h : GF g) {i : Nat} (hi : i < 9) : rf (rf g 2) (nI i).toNatClampNeg = g + 2 + i := by
  rw [nI_clamp (by omega), h.2.2.1]; exact h.2.2.2.2.1 i hi
theorem GF.vp {g : Nat} (h : GF g) {i : Nat} (hi : i < 9) : vp_in (nI i) (ln (rf g 2)) := by
  rw [h.2.2.1, h.2.2.2.1]; exact vp_in_nI hi (by decide)
def TF (t : Nat) : Prop := rf t 0 = t + 1 ∧ rf t 1 = t + 2 ∧ rf t 2 = t + 3 ∧ rf t 3 = t + 4 ∧ ln (t + 1) = 50 ∧ ln (t + 2) = 50 ∧ ln (t + 3) = 50 ∧ ln (t + 4) = 50
theorem TF2 : TF 2 := ⟨rfl, rfl, rfl, rfl, rfl, rfl, rfl, rfl⟩
theorem TF7 : TF 7 := ⟨rfl, rfl, rfl, rfl, rfl, rfl, rfl, rfl⟩
theorem TF26 : TF 26 := ⟨rfl, rfl, rfl, rfl, rfl, rfl, rfl, rfl⟩
theorem TF31 : TF 31 := ⟨rfl, rfl, rfl, rfl, rfl, rfl, rfl, rfl⟩
theorem TF61 : TF 61 := ⟨rfl, rfl, rfl, rfl, rfl, rfl, rfl, rfl⟩
def In50 (x : Int32) : Prop := ∃ k : Nat, k < 50 ∧ x = nI k
theorem in50_vp {x : Int32} (h : In50 x) : vp_in x 50 := by obtain ⟨k, hk, rfl⟩ := h; exact vp_in_nI hk (by decide)
/-- a text's nodes: a joined one's parts are places of the row -/
def TX (t : Nat) (M : Mem) : Prop := ∃ z : Nat, z ≤ 50 ∧ M t 5 = nI z ∧ ∀ j, j < z → M (t + 1) j = 48 ∨ M (t + 1) j = 110 ∨ (In50 (M (t + 2) j) ∧ In50 (M (t + 3) j))
theorem TX.keep {t : Nat} {M M1 : Mem} (h : TX t M) (e0 : M1 t = M t) (e1 : M1 (t + 1) = M (t + 1)) (e2 : M1 (t + 2) = M (t + 2)) (e3 : M1 (t + 3) = M (t + 3)) : TX t M1 := by
  unfold TX; rw [e0, e1, e2, e3]; exact h
theorem any_joined {a b c : Int32} {M : Mem} {K : Int32 → Mem → Prop} (h : ∀ r, K r M) : wp_X4_joined a b c M K := by
  unfold wp_X4_joined
  repeat' (first | exact h _ | assumption | refine ⟨?_, ?_⟩ | intro _)
theorem any_gains {a b : Int32} {x : Nat} {M : Mem} {K : Int32 → Mem → Prop} (h : ∀ r, K r M) : wp_X1_gains x a b M K := by
  unfold wp_X1_gains
  repeat' (first | exact h _ | assumption | refine ⟨?_, ?_⟩ | intro _)
theorem any_needs {x : Nat} {M : Mem} {K : Int32 → Mem → Prop} (h : ∀ r, K r M) : wp_X1_needs x M K := by
  unfold wp_X1_needs
  repeat' (first | exact h _ | assumption | refine ⟨?_, ?_⟩ | intro _)
theorem any_dulls {x : Nat} {M : Mem} {K : Int32 → Mem → Prop} (h : ∀ r, K r M) : wp_X1_dulls x M K := by
  unfold wp_X1_dulls
  repeat' (first | exact h _ | assumption | refine ⟨?_, ?_⟩ | intro _)
/-- a text worked out: its values alone change -/
abbrev SV (t b : Nat) : Bool := b == t + 4
theorem any_worked {t : Nat} (hF : TF t) {a b c : Int32} {M : Mem} {K : Int32 → Mem → Prop} (hT : TX t M) (h0 : ¬ M t 5 ≤ 0) (h : ∀ r M1, St (SV t) M M1 → K r M1) : wp_X4_workedOut t a b c M K := by
  obtain ⟨z, hz, ez, hj⟩ := hT
  have hz0 : 0 < z := by
    rcases Nat.eq_zero_or_pos z with e | e
    · rw [ez, e] at h0; exact absurd (by decide) h0
    · exact e
  obtain ⟨f0, f1, f2, f3, g0, g1, g2, g3⟩ := hF
  unfold wp_X4_workedOut
  refine loopN (L := fun n i M => wp_X4_workedOut_L3 K t a b c n i M) z (fun _ M' => St (SV t) M M') ?_ 0 (Nat.zero_le _) St.rf
  intro i M' n hi hs ih
  show wp_X4_workedOut_l3 K t a b c (wp_X4_workedOut_L3 K t a b c n) (nI i) M'
  unfold wp_X4_workedOut_l3
  have et : M' t = M t := hs t (by simp)
  have e1 : M' (t + 1) = M (t + 1) := hs _ (by simp)
  have e2 : M' (t + 2) = M (t + 2) := hs _ (by simp)
  have e3 : M' (t + 3) = M (t + 3) := hs _ (by simp)
  simp only [f0, f1, f2, f3, g0, g1, g2, g3, et, e1, e2, e3, ez]
  refine ⟨fun q => ⟨?_, h _ _ hs⟩, fun q => ?_⟩
  · obtain ⟨z1, rfl⟩ : ∃ z1, z = z1 + 1 := ⟨z - 1, by omega⟩
    rw [nI_pred]; exact vp_in_nI (by omega) (by decide)
  · have hi2 : i < z := lt_of_nI q (by omega) (by omega)
    have hv : vp_in (nI i) 50 := vp_in_nI (by omega) (by decide)
    have hk : ∀ x, wp_X4_workedOut_L3 K t a b c n (nI i + 1) (up M' (t + 4) (nI i).toNatClampNeg x) := fun x => by
      rw [nI_1]; exact ih _ hi2 (hs.up (by simp))
    refine ⟨hv, hv, ⟨fun q1 => ⟨hv, ⟨fun q2 => ⟨hv, ?_⟩, fun q2 => ?_⟩⟩, fun q1 => ⟨hv, hk _⟩⟩⟩
    · have := hj i hi2
      rw [nI_clamp (by omega)] at q1 q2 ⊢
      rcases this with e | e | ⟨i1, i2⟩
      · exact absurd e q1
      · exact absurd e q2
      · refine ⟨in50_vp i1, hv, in50_vp i2, any_joined (fun r => ⟨hv, ?_⟩)⟩
        have := hk r
        rw [nI_clamp (by omega)] at this
        exact this
    · refine ⟨fun q3 => ⟨fun _ => ⟨hv, hk _⟩, fun _ => ⟨hv, hk _⟩⟩, fun q3 => ⟨hv, hk _⟩⟩
theorem any_gives {t : Nat} (hF : TF t) {a b c : Int32} {M : Mem} {K : Int32 → Mem → Prop} (hT : TX t M) (h : ∀ r M1, St (SV t) M M1 → K r M1) : wp_X4_gives t a b c M K := by
  unfold wp_X4_gives
  exact ⟨fun _ => ⟨fun _ => h _ _ St.rf, fun _ => h _ _ St.rf⟩, fun q => any_worked hF hT q (fun r M1 hs => h _ _ hs)⟩
/-- what a day may change of a ground g: n stays; the fields 0, 1, 2, 4 of each; ENDED is 0 or 1; STEP; DAY moves by d -/
abbrev SD (g b : Nat) : Bool := b == 6 || b == 11 || b == g || (decide (g + 2 ≤ b) && decide (b ≤ g + 10))
def DR (g n d : Nat) (M M1 : Mem) : Prop := St (SD g) M M1 ∧ M1 g 3 = nI n ∧ M1 g 5 = M g 5 ∧ M1 g 6 = M g 6 + nI d ∧ (∀ q : Nat, q < n → BoolOK (M1 (g + 2 + q) 6)) ∧ (∀ q : Nat, q < 9 → M1 (g + 2 + q) 0 = M (g + 2 + q) 0 ∧ M1 (g + 2 + q) 1 = M (g + 2 + q) 1 ∧ M1 (g + 2 + q) 2 = M (g + 2 + q) 2 ∧ M1 (g + 2 + q) 4 = M (g + 2 + q) 4)
theorem DR.rf {g n : Nat} {M : Mem} (hn : M g 3 = nI n) (hB : ∀ q : Nat, q < n → BoolOK (M (g + 2 + q) 6)) : DR g n 0 M M := ⟨St.rf, hn, rfl, (Int32.add_zero _).symm, hB, fun _ _ => ⟨rfl, rfl, rfl, rfl⟩⟩
theorem DR.tr {g n d d2 : Nat} {M M1 M2 : Mem} (h : DR g n d M M1) (h2 : DR g n d2 M1 M2) : DR g n (d + d2) M M2 :=
  ⟨h.1.tr h2.1, h2.2.1, h2.2.2.1.trans h.2.2.1, by rw [h2.2.2.2.1, h.2.2.2.1, Int32.add_assoc, nI_add], h2.2.2.2.2.1, fun q hq => by
    obtain ⟨a0, a1, a2, a3⟩ := h.2.2.2.2.2 q hq
    obtain ⟨b0, b1, b2, b3⟩ := h2.2.2.2.2.2 q hq
    exact ⟨b0.trans a0, b1.trans a1, b2.trans a2, b3.trans a3⟩⟩
/-- rows outside the ground change -/
theorem DR.val {g n d : Nat} {M M1 M2 : Mem} (hg : GF g) (h : DR g n d M M1) (hs : St (fun b => b == 6 || b == 11) M1 M2) : DR g n d M M2 := by
  have hne : ∀ b, g ≤ b → M2 b = M1 b := fun b hb => hs b (by rcases hg.2.2.2.2.2 with e | e <;> simp <;> omega)
  refine ⟨h.1.tr (hs.w (by simp <;> omega)), ?_, ?_, ?_, ?_, ?_⟩
  · rw [hne g (Nat.le_refl _)]; exact h.2.1
  · rw [hne g (Nat.le_refl _)]; exact h.2.2.1
  · rw [hne g (Nat.le_refl _)]; exact h.2.2.2.1
  · intro q hq; rw [hne _ (by omega)]; exact h.2.2.2.2.1 q hq
  · intro q hq; rw [hne _ (by omega)]; exact h.2.2.2.2.2 q hq
/-- a field of the ground or of a one that may change does -/
theorem DR.upg {g n d k : Nat} {x : Int32} {M M1 : Mem} (h : DR g n d M M1) (hk : k = 4 ∨ k = 7 ∨ k = 8) : DR g n d M (up M1 g k x) := by
  refine ⟨h.1.up (by simp), ?_, ?_, ?_, ?_, ?_⟩
  · rw [up_slot _ (by omega)]; exact h.2.1
  · rw [up_slot _ (by omega)]; exact h.2.2.1
  · rw [up_slot _ (by omega)]; exact h.2.2.2.1
  · intro q hq; rw [up_cell (by omega)]; exact h.2.2.2.2.1 q hq
  · intro q hq; simp only [up_cell (show g + 2 + q ≠ g by omega)]; exact h.2.2.2.2.2 q hq
theorem DR.up1 {g n d k i : Nat} {x : Int32} {M M1 : Mem} (h : DR g n d M M1) (hi : i < 9) (hk : k = 3 ∨ k = 5) : DR g n d M (up M1 (g + 2 + i) k x) := by
  refine ⟨h.1.up (by simp <;> omega), ?_, ?_, ?_, ?_, ?_⟩
  · rw [up_cell (by omega)]; exact h.2.1
  · rw [up_cell (by omega)]; exact h.2.2.1
  · rw [up_cell (by omega)]; exact h.2.2.2.1
  · intro q hq; rw [up_slot _ (by omega)]; exact h.2.2.2.2.1 q hq
  · intro q hq
    rw [up_slot _ (by omega), up_slot _ (by omega), up_slot _ (by omega), up_slot _ (by omega)]; exact h.2.2.2.2.2 q hq
theorem DR.up6 {g n d i : Nat} {x : Int32} {M M1 : Mem} (h : DR g n d M M1) (hi : i < 9) (hx : BoolOK x) : DR g n d M (up M1 (g + 2 + i) 6 x) := by
  refine ⟨h.1.up (by simp <;> omega), ?_, ?_, ?_, ?_, ?_⟩
  · rw [up_cell (by omega)]; exact h.2.1
  · rw [up_cell (by omega)]; exact h.2.2.1
  · rw [up_cell (by omega)]; exact h.2.2.2.1
  · intro q hq
    by_cases e : q = i
    · subst e; rw [up_same]; exact hx
    · rw [up_cell (by omega)]; exact h.2.2.2.2.1 q hq
  · intro q hq
    rw [up_slot _ (by omega), up_slot _ (by omega), up_slot _ (by omega), up_slot _ (by omega)]; exact h.2.2.2.2.2 q hq
theorem DR.tx {g n d t : Nat} {M M1 : Mem} (hg : GF g) (h : DR g n d M M1) (ht : t = 2 ∨ t = 7) (hT : TX t M) : TX t M1 := by
  have hne : ∀ b, 2 ≤ b → b ≤ 10 → b ≠ 6 → M1 b = M b := fun b h1 h2 h3 => h.1 b (by rcases hg.2.2.2.2.2 with e | e <;> simp <;> omega)
  exact hT.keep (hne _ (by omega) (by omega) (by omega)) (hne _ (by omega) (by omega) (by omega)) (hne _ (by omega) (by omega) (by omega)) (hne _ (by omega) (by omega) (by omega))
theorem day_gainsOf {g n d i : Nat} (hg : GF g) (hi : i < 9) {M M1 : Mem} {K : Int32 → Mem → Prop} (hT : TX 2 M) (h : DR g n d M M1) (hk : ∀ r M2, DR g n d M M2 → K r M2) : wp_X0_gainsOf g (g + 2 + i) M1 K := by
  unfold wp_X0_gainsOf
  rw [hg.1]
  exact any_gives TF2 (h.tx hg (Or.inl rfl) hT) (fun r M2 hs => any_gains (fun r2 => hk _ _ (h.val hg (hs.w (by simp <;> omega)))))
theorem day_grind {g n : Nat} (hg : GF g) (hn : n ≤ 9) {M : Mem} {K : Mem → Prop} (hT : TX 2 M) (h0 : DR g n 0 M M) (hk : ∀ M1, DR g n 0 M M1 → K M1) : wp_X0_grindArea g M K := by
  unfold wp_X0_grindArea
  refine loopN (L := fun k i M' => wp_X0_grindArea_L2 K g k i M') n (fun _ M' => DR g n 0 M M') ?_ 0 (Nat.zero_le _) h0
  intro i M' k hi hs ih
  show wp_X0_grindArea_l2 K g (wp_X0_grindArea_L2 K g k) (nI i) M'
  unfold wp_X0_grindArea_l2
  rw [hs.2.1]
  refine ⟨fun _ => hk _ hs, fun q => ?_⟩
  have hi2 : i < n := lt_of_nI q (by omega) (by omega)
  simp only [hg.one (show i < 9 by omega), nI_1]
  exact ⟨hg.vp (by omega), fun _ => ih _ hi2 hs, fun _ => ⟨fun _ => ih _ hi2 hs, fun _ => day_gainsOf hg (by omega) hT hs (fun r M2 h2 => by rintro _ rfl; exact ih _ hi2 ((h2.up1 (by omega) (by simp)).upg (by simp)))⟩⟩
theorem day_isFree {g n d i : Nat} (hg : GF g) (hn : n ≤ 9) (hi : i < 9) {M M1 : Mem} {K : Int32 → Mem → Prop} (h : DR g n d M M1) (hk : ∀ r, BoolOK r → K r M1) : wp_X0_isFree g (g + 2 + i) M1 K := by
  unfold wp_X0_isFree
  rw [h.2.1]
  refine w7z 0 ((n : Int) - 1) (by decide) (nI_m1 (by omega)) (fun g1 g2 => ?_) (fun _ => hk _ (Or.inr rfl))
  obtain ⟨j, hj, ej⟩ := nat_of (x := M1 (g + 2 + i) 4) 8 (by omega) (by omega) (by decide)
  rw [ej, hg.one (by omega)]
  exact ⟨hg.vp (by omega), fun _ => hk _ (Or.inl rfl), fun _ => hk _ (Or.inr rfl)⟩
theorem day_end {g n : Nat} (hg : GF g) (hn : n ≤ 9) {w : Int32} {M M0 : Mem} {K : Mem → Prop} (hT : TX 7 M) (h0 : DR g n 0 M M0) (hk : ∀ M1, DR g n 0 M M1 → K M1) : wp_X0_endOrDull g w M0 K := by
  unfold wp_X0_endOrDull
  refine loopN (L := fun k i M' => wp_X0_endOrDull_L2 K g w k i M') n (fun _ M' => DR g n 0 M M') ?_ 0 (Nat.zero_le _) h0
  intro i M' k hi hs ih
  show wp_X0_endOrDull_l2 K g w (wp_X0_endOrDull_L2 K g w k) (nI i) M'
  unfold wp_X0_endOrDull_l2
  rw [hs.2.1]
  refine ⟨fun _ => hk _ hs, fun q => ?_⟩
  have hi2 : i < n := lt_of_nI q (by omega) (by omega)
  simp only [hg.one (show i < 9 by omega)]
  have hb : wp_X0_endOrDull_b54 K (wp_X0_endOrDull_L2 K g w k) g w (nI i) (g + 2 + i) M' := by
    unfold wp_X0_endOrDull_b54
    rw [nI_1, hg.2.1]
    refine ⟨fun _ => any_dulls (fun r => by rintro _ rfl; exact ih _ hi2 ((hs.up1 (by omega) (by simp)).up1 (by omega) (by simp))), fun _ => any_gives TF7 (hs.tx hg (Or.inr rfl) hT) (fun r M2 h2 => any_dulls (fun r2 => by rintro _ rfl; exact ih _ hi2 ((((hs.val hg (h2.w (by simp <;> omega))).upg (by simp)).up1 (by omega) (by simp)).up1 (by omega) (by simp))))⟩
  refine ⟨hg.vp (by omega), fun _ => any_needs (fun r => ⟨fun _ => hb, fun _ => day_isFree hg hn (by omega) hs (fun r2 hr => ⟨fun _ => hb, fun _ => ?_⟩)⟩), fun _ => ?_⟩
  · rw [nI_1]; exact ih _ hi2 (hs.up6 (by omega) (Or.inr rfl))
  · rw [nI_1]; exact ih _ hi2 hs
theorem day_rest {g n : Nat} (hg : GF g) (hn : n ≤ 9) {w : Int32} {M M0 : Mem} {K : Mem → Prop} (hT : TX 7 M) (h0 : DR g n 0 M M0) (hk : ∀ M1, DR g n 1 M M1 → K M1) : wp_X0_restDay g w M0 K := by
  unfold wp_X0_restDay
  refine day_end hg hn hT h0 (fun M1 h1 => ?_)
  rintro _ rfl
  refine hk _ ?_
  have h2 := h1.upg (k := 4) (x := (((M1 g 4) + (M1 g 5)) - ((M1 g 4) + (M1 g 5)) / 10 * 10)) (by simp)
  refine ⟨h2.1.up (by simp), ?_, ?_, ?_, ?_, ?_⟩
  · rw [up_slot _ (by omega)]; exact h2.2.1
  · rw [up_slot _ (by omega)]; exact h2.2.2.1
  · rw [up_same, h2.2.2.2.1, Int32.add_assoc]; rfl
  · intro q hq; rw [up_cell (by omega)]; exact h2.2.2.2.2.1 q hq
  · intro q hq; simp only [up_cell (show g + 2 + q ≠ g by omega)]; exact h1.2.2.2.2.2 q hq
theorem day_pass {g n : Nat} (hg : GF g) (hn : n ≤ 9) {w : Int32} {M : Mem} {K : Mem → Prop} (hT2 : TX 2 M) (hT7 : TX 7 M) (h0 : DR g n 0 M M) (hk : ∀ M1, DR g n 1 M M1 → K M1) : wp_X0_passDay g w M K := by
  unfold wp_X0_passDay
  exact day_grind hg hn hT2 h0 (fun M1 h1 => day_rest hg hn hT7 h1 hk)
