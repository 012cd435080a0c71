/-- a class' text and a model's walk say the same -/
def upn (σ : Nat → Nat) (d k : Nat) : Nat → Nat := fun e => if e = d then k else σ e
theorem upn_s {σ : Nat → Nat} {d k : Nat} : upn σ d k d = k := if_pos rfl
theorem upn_o {σ : Nat → Nat} {d k e : Nat} (h : e ≠ d) : upn σ d k e = σ e := if_neg h
def SQ (s l r m : Int32) (k d d1 : Nat) (σ σ1 : Nat → Nat) : Prop :=
  (∃ v, v < 10000 ∧ s = 48 ∧ l = nI v ∧ m = nI v ∧ d1 = d + 1 ∧ σ1 = upn σ d k)
  ∨ (∃ v, v < 3 ∧ s = 110 ∧ l = nI v ∧ m = nI (10000 + v) ∧ d1 = d + 1 ∧ σ1 = upn σ d k)
  ∨ (∃ e, d = e + 1 ∧ s = 33 ∧ m = nI 20033 ∧ l = nI (σ e) ∧ r = nI (σ e) ∧ d1 = e + 1 ∧ σ1 = upn σ e k)
  ∨ (∃ c e, isSg c ∧ d = e + 2 ∧ s = nI c ∧ m = nI (20000 + c) ∧ l = nI (σ e) ∧ r = nI (σ (e + 1)) ∧ d1 = e + 1 ∧ σ1 = upn σ e k)
def SQs (S L R f : Nat → Int32) (z : Nat) (g : Nat → Nat) (σ : Nat → Nat → Nat) : Prop := g 0 = 0 ∧ ∀ k, k < z → SQ (S k) (L k) (R k) (f k) k (g k) (g (k + 1)) (σ k) (σ (k + 1))
theorem SQs.below {S L R f : Nat → Int32} {z : Nat} {g : Nat → Nat} {σ : Nat → Nat → Nat} (h : SQs S L R f z g σ) : ∀ k, k ≤ z → g k ≤ k ∧ ∀ e, e < g k → σ k e < k := by
  intro k
  induction k with
  | zero => intro _; rw [h.1]; exact ⟨Nat.le_refl 0, fun e he => absurd he (Nat.not_lt_zero e)⟩
  | succ k ih =>
    intro hk
    obtain ⟨i1, i2⟩ := ih (by omega)
    have key : ∀ d0, g (k + 1) = d0 + 1 → d0 ≤ g k → σ (k + 1) = upn (σ k) d0 k → g (k + 1) ≤ k + 1 ∧ ∀ e, e < g (k + 1) → σ (k + 1) e < k + 1 := by
      intro d0 e1 e2 e3
      refine ⟨by omega, fun e he => ?_⟩
      rw [e3]
      by_cases q : e = d0
      · rw [q, upn_s]; omega
      · rw [upn_o q]; have := i2 e (by omega); omega
    rcases h.2 k (by omega) with ⟨v, a1, a2, a3, a4, a5, a6⟩ | ⟨v, a1, a2, a3, a4, a5, a6⟩ | ⟨e, a1, a2, a3, a4, a5, a6, a7⟩ | ⟨c, e, a0, a1, a2, a3, a4, a5, a6, a7⟩
    · exact key _ a5 (Nat.le_refl _) a6
    · exact key _ a5 (Nat.le_refl _) a6
    · exact key _ a6 (by omega) a7
    · exact key _ a6 (by omega) a7
theorem SQs.nd {S L R f : Nat → Int32} {z : Nat} {g : Nat → Nat} {σ : Nat → Nat → Nat} (h : SQs S L R f z g σ) {k : Nat} (hk : k < z) : ND S L R k := by
  have hb := (h.below k (by omega)).2
  rcases h.2 k hk with ⟨v, a1, a2, -⟩ | ⟨v, a1, a2, -⟩ | ⟨e, a1, a2, a3, a4, a5, a6, a7⟩ | ⟨c, e, a0, a1, a2, a3, a4, a5, a6, a7⟩
  · exact Or.inl a2
  · exact Or.inr (Or.inl a2)
  · exact Or.inr (Or.inr ⟨33, σ k e, σ k e, Or.inr rfl, a2, hb e (by omega), hb e (by omega), a4, a5⟩)
  · exact Or.inr (Or.inr ⟨c, σ k e, σ k (e + 1), Or.inl a0, a2, hb e (by omega), hb _ (by omega), a4, a5⟩)
theorem SQs.top {S L R f : Nat → Int32} {z : Nat} {g : Nat → Nat} {σ : Nat → Nat → Nat} (h : SQs S L R f z g σ) (hz : 1 ≤ z) (h1 : g z = 1) : σ z 0 = z - 1 := by
  obtain ⟨k, rfl⟩ : ∃ k, z = k + 1 := ⟨z - 1, by omega⟩
  have key : ∀ d0, g (k + 1) = d0 + 1 → σ (k + 1) = upn (σ k) d0 k → σ (k + 1) 0 = k + 1 - 1 := by
    intro d0 e1 e2
    have : d0 = 0 := by omega
    subst this
    rw [e2, upn_s]; omega
  rcases h.2 k (by omega) with ⟨v, a1, a2, a3, a4, a5, a6⟩ | ⟨v, a1, a2, a3, a4, a5, a6⟩ | ⟨e, a1, a2, a3, a4, a5, a6, a7⟩ | ⟨c, e, a0, a1, a2, a3, a4, a5, a6, a7⟩
  · exact key _ a5 a6
  · exact key _ a5 a6
  · exact key _ a6 a7
  · exact key _ a6 a7
theorem SQs.rw {S L R f : Nat → Int32} {z : Nat} {g : Nat → Nat} {σ : Nat → Nat → Nat} (h : SQs S L R f z g σ) : RWg f z := by
  refine ⟨g, h.1, fun k hk => ?_⟩
  rcases h.2 k hk with ⟨v, a1, a2, a3, a4, a5, a6⟩ | ⟨v, a1, a2, a3, a4, a5, a6⟩ | ⟨e, a1, a2, a3, a4, a5, a6, a7⟩ | ⟨c, e, a0, a1, a2, a3, a4, a5, a6, a7⟩
  · exact Or.inl ⟨v, by omega, a4, a5⟩
  · exact Or.inl ⟨10000 + v, by omega, a4, a5⟩
  · exact Or.inr (Or.inl ⟨a3, by omega, by omega⟩)
  · have := a0.lt
    have : c ≠ 33 := by rcases a0 with q | q | q | q | q | q | q | q | q | q <;> omega
    exact Or.inr (Or.inr ⟨20000 + c, by omega, by omega, by omega, a3, by omega, by omega⟩)
def TQ (t w : Nat) (f : Nat → Int32) (M : Mem) : Prop := M t 4 = nI w ∧ ((M t 5 = 0 ∧ f (5 + w) = -1) ∨ ∃ (z : Nat) (g : Nat → Nat) (σ : Nat → Nat → Nat), 1 ≤ z ∧ z ≤ 50 ∧ M t 5 = nI z ∧ f (5 + w) = nI z ∧ SQs (M (t + 1)) (M (t + 2)) (M (t + 3)) (fun j => f (144 + 50 * w + j)) z g σ ∧ g z = 1)
theorem TQ.tc {t w : Nat} {f : Nat → Int32} {M : Mem} (h : TQ t w f M) : M t 5 = 0 ∨ ∃ z, TC t z M := by
  rcases h.2 with ⟨h1, -⟩ | ⟨z, g, σ, h1, h2, h3, h4, h5, h6⟩
  · exact Or.inl h1
  · exact Or.inr ⟨z, h1, h2, h3, fun j hj => h5.nd hj⟩
theorem TQ.to {t w : Nat} {f : Nat → Int32} {M : Mem} (h : TQ t w f M) : TO f w := by
  rcases h.2 with ⟨-, h1⟩ | ⟨z, g, σ, h1, h2, h3, h4, h5, h6⟩
  · exact Or.inl h1
  · exact Or.inr ⟨z, h2, h4, h5.rw⟩
theorem TQ.keep {t w : Nat} {f f1 : Nat → Int32} {M M1 : Mem} (h : TQ t w f M) (e0 : M1 t = M t) (e1 : M1 (t + 1) = M (t + 1)) (e2 : M1 (t + 2) = M (t + 2)) (e3 : M1 (t + 3) = M (t + 3)) (f5 : f1 (5 + w) = f (5 + w)) (ft : ∀ j, j < 50 → f1 (144 + 50 * w + j) = f (144 + 50 * w + j)) : TQ t w f1 M1 := by
  unfold TQ
  rw [e0, e1, e2, e3, f5]
  refine ⟨h.1, ?_⟩
  rcases h.2 with h1 | ⟨z, g, σ, h1, h2, h3, h4, h5, h6⟩
  · exact Or.inl h1
  · refine Or.inr ⟨z, g, σ, h1, h2, h3, h4, ⟨h5.1, fun k hk => ?_⟩, h6⟩
    have := h5.2 k hk
    show SQ _ _ _ (f1 (144 + 50 * w + k)) _ _ _ _ _
    rw [ft k (by omega)]; exact this
theorem e_walks {t w : Nat} (hw : w < 2) {a b c : Int32} {M : Mem} {K : Int32 → Mem → Prop} {X : Mem} {z : Nat} {g : Nat → Nat} {σ : Nat → Nat → Nat} (hz1 : 1 ≤ z) (hz : z ≤ 50) (ez : M 80 (5 + w) = nI z) (hq : SQs (X (t + 1)) (X (t + 2)) (X (t + 3)) (fun j => M 80 (144 + 50 * w + j)) z g σ) (hg1 : g z = 1) (h : ∀ M1, St SW M M1 → K (vl (X (t + 1)) (X (t + 2)) (X (t + 3)) a b c (z - 1)) M1) : wp_X8_walks (nI w) a b c M K := by
  have hbl := hq.below
  have g0 := hq.1
  unfold wp_X8_walks
  have eb : (144 : Int32) + 50 * nI w = nI (144 + 50 * w) := by
    rw [show (50 : Int32) = nI 50 from rfl, show (144 : Int32) = nI 144 from rfl, pk_mul, nI_add]
  have e5 : (5 : Int32) + nI w = nI (5 + w) := by rw [show (5 : Int32) = nI 5 from rfl, nI_add]
  rw [eb]
  refine loopNA (L := fun n a i M' => wp_X8_walks_L39 K (nI w) (nI (144 + 50 * w)) n a i M') (144 + 50 * w + z) (fun i p M' => 144 + 50 * w ≤ i ∧ p = nI (g (i - (144 + 50 * w))) ∧ St SW M M' ∧ (M' 86 0 = a ∧ M' 86 1 = b ∧ M' 86 2 = c) ∧ ∀ e, e < g (i - (144 + 50 * w)) → M' 85 e = vl (X (t + 1)) (X (t + 2)) (X (t + 3)) a b c (σ (i - (144 + 50 * w)) e)) ?_ (144 + 50 * w) (by omega) ⟨Nat.le_refl _, by rw [Nat.sub_self, g0]; rfl, ((St.rf.up rfl).up rfl).up rfl, ⟨rfl, rfl, rfl⟩, fun e he => by rw [Nat.sub_self, g0] at he; exact absurd he (Nat.not_lt_zero e)⟩
  intro i d M' n hi hs ih
  obtain ⟨hb, rfl, hs, hnm, hp⟩ := hs
  obtain ⟨k, rfl⟩ : ∃ k, i = 144 + 50 * w + k := ⟨i - (144 + 50 * w), by omega⟩
  have ek : 144 + 50 * w + k - (144 + 50 * w) = k := by omega
  have ek1 : 144 + 50 * w + k + 1 - (144 + 50 * w) = k + 1 := by omega
  rw [ek] at hp ⊢
  rw [ek1] at ih
  show wp_X8_walks_l39 K (nI w) (nI (144 + 50 * w)) (wp_X8_walks_L39 K (nI w) (nI (144 + 50 * w)) n) (nI (g k)) (nI (144 + 50 * w + k)) M'
  unfold wp_X8_walks_l39
  have er : M' 80 = M 80 := hs 80 rfl
  rw [e5, nI_clamp (by omega), nI_clamp (by omega), er, ez, nI_add]
  refine ⟨vp_in_nI (by omega) (by decide), fun q => ?_, fun q => ?_⟩
  · have hkz : z = k := by have := le_of_nI q (by omega) (by omega); omega
    subst hkz
    rw [hp 0 (by omega), hq.top hz1 hg1]
    exact h _ hs
  · have hkz : 144 + 50 * w + k < 144 + 50 * w + z := lt_of_nI q (by omega) (by omega)
    refine ⟨vp_in_nI (by omega) (by decide), ?_⟩
    have hb1 := hbl k (by omega)
    have hb2 := hbl (k + 1) (by omega)
    have next : ∀ (d0 : Nat) (x : Int32), g (k + 1) = d0 + 1 → d0 ≤ g k → σ (k + 1) = upn (σ k) d0 k → x = vl (X (t + 1)) (X (t + 2)) (X (t + 3)) a b c k → wp_X8_walks_L39 K (nI w) (nI (144 + 50 * w)) n (nI (d0 + 1)) (nI (144 + 50 * w + k + 1)) (up M' 85 d0 x) := by
      intro d0 x x1 x2 x3 x4
      rw [← x1]
      refine ih _ _ hkz ⟨by omega, rfl, hs.up rfl, ⟨by rw [up_cell (by decide)]; exact hnm.1, by rw [up_cell (by decide)]; exact hnm.2.1, by rw [up_cell (by decide)]; exact hnm.2.2⟩, fun e he => ?_⟩
      rw [x3]
      by_cases q : e = d0
      · subst q; rw [up_same, upn_s]; exact x4
      · rw [up_slot _ q, upn_o q]; exact hp e (by omega)
    have hst := hq.2 k (by omega)
    rw [nI_1]
    rcases hst with ⟨v, a1, a2, a3, a4, a5, a6⟩ | ⟨v, a1, a2, a3, a4, a5, a6⟩ | ⟨e, a1, a2, a3, a4, a5, a6, a7⟩ | ⟨s, e, a0, a1, a2, a3, a4, a5, a6, a7⟩
    · have a4' : M 80 (144 + 50 * w + k) = nI v := a4
      rw [a4']
      refine ⟨fun q2 => absurd (show nI 20000 ≤ nI v from q2) (nI_ge (by omega) (by omega)), fun _ => ⟨fun q3 => absurd (show nI 10000 ≤ nI v from q3) (nI_ge (by omega) (by omega)), fun q3 => ?_⟩⟩
      rw [nI_1, nI_clamp (by omega)]
      exact ⟨vp_in_nI (by omega) (by decide), next _ _ a5 (Nat.le_refl _) a6 (by rw [vl_num a2, a3])⟩
    · have a4' : M 80 (144 + 50 * w + k) = nI (10000 + v) := a4
      rw [a4']
      refine ⟨fun q2 => absurd (show nI 20000 ≤ nI (10000 + v) from q2) (nI_ge (by omega) (by omega)), fun _ => ⟨fun q3 => ?_, fun q3 => absurd (nI_le (a := 10000) (b := 10000 + v) (by omega) (by omega)) q3⟩⟩
      have e0 : nI (10000 + v) - 10000 = nI v := by
        rw [show (10000 : Int32) = nI 10000 from rfl, pk_sub (by omega), show 10000 + v - 10000 = v by omega]
      rw [e0, nI_1, nI_clamp (by omega), nI_clamp (by omega)]
      refine ⟨vp_in_nI (by omega) (by decide), vp_in_nI (by omega) (by decide), next _ _ a5 (Nat.le_refl _) a6 ?_⟩
      rw [vl_name a2, a3]
      rcases (by omega : v = 0 ∨ v = 1 ∨ v = 2) with rfl | rfl | rfl
      · rw [hnm.1]; rfl
      · rw [hnm.2.1]; rfl
      · rw [hnm.2.2]; rfl
    · have a3' : M 80 (144 + 50 * w + k) = nI 20033 := a3
      rw [a3']
      refine ⟨fun _ => ⟨fun q3 => absurd rfl q3, fun _ => ?_⟩, fun q3 => absurd (nI_le (a := 20000) (b := 20033) (by omega) (by omega)) q3⟩
      rw [a1, nI_pred, nI_clamp (by omega)]
      have hv : vp_in (nI e) 50 := vp_in_nI (by omega) (by decide)
      have hlt := hb1.2 e (by omega)
      have hj := vl_jn (S := X (t + 1)) (L := X (t + 2)) (R := X (t + 3)) (a := a) (b := b) (c := c) (j := k) (s := 33) (e1 := σ k e) (e2 := σ k e) (Or.inr rfl) a2 a4 a5 hlt hlt (by omega)
      rw [hp e (by omega)]
      refine ⟨hv, fun q4 => ⟨hv, next _ _ a6 (by omega) a7 ?_⟩, fun q4 => ⟨hv, next _ _ a6 (by omega) a7 ?_⟩⟩
      · rw [hj]
        show _ = (if vl (X (t + 1)) (X (t + 2)) (X (t + 3)) a b c (σ k e) = 0 then (1 : Int32) else 0)
        rw [if_neg q4]
      · rw [hj]
        show _ = (if vl (X (t + 1)) (X (t + 2)) (X (t + 3)) a b c (σ k e) = 0 then (1 : Int32) else 0)
        rw [if_pos q4]
    · have a3' : M 80 (144 + 50 * w + k) = nI (20000 + s) := a3
      have hs5 := a0.lt
      have h33 : s ≠ 33 := by rcases a0 with q | q | q | q | q | q | q | q | q | q <;> omega
      rw [a3']
      refine ⟨fun _ => ⟨fun _ => ?_, fun q3 => absurd ((nI_eq (by omega) (by omega)).mp (show nI (20000 + s) = nI 20033 from q3)) (by omega)⟩, fun q3 => absurd (nI_le (a := 20000) (b := 20000 + s) (by omega) (by omega)) q3⟩
      have e0 : nI (20000 + s) - 20000 = nI s := by
        rw [show (20000 : Int32) = nI 20000 from rfl, pk_sub (by omega), show 20000 + s - 20000 = s by omega]
      rw [a1, nI_dec, nI_pred, e0, nI_clamp (by omega), nI_clamp (by omega), hp e (by omega), hp (e + 1) (by omega)]
      have h1 := hb1.2 e (by omega)
      have h2 := hb1.2 (e + 1) (by omega)
      exact ⟨vp_in_nI (by omega) (by decide), vp_in_nI (by omega) (by decide), m_jn a0 ⟨vp_in_nI (by omega) (by decide), next _ _ a6 (by omega) a7 (vl_jn (Or.inl a0) a2 a4 a5 h1 h2 (by omega)).symm⟩⟩
theorem e_lawOf {t w : Nat} (hw : w < 2) {a b c : Int32} {M X : Mem} {K : Int32 → Mem → Prop} (hT : TQ t w (M 80) X) (h : ∀ M1, St SW M M1 → K (tv t X a b c) M1) : wp_X8_lawOf (nI w) a b c M K := by
  unfold wp_X8_lawOf
  have e5 : (5 : Int32) + nI w = nI (5 + w) := by rw [show (5 : Int32) = nI 5 from rfl, nI_add]
  rw [e5, nI_clamp (by omega)]
  obtain ⟨hu, hT⟩ := hT
  unfold tv at h
  rw [hu] at h
  rcases hT with ⟨h1, h2⟩ | ⟨z, g, σ, h1, h2, h3, h4, h5, h6⟩
  · rw [h1, if_pos (by decide)] at h
    rw [h2]
    refine ⟨vp_in_nI (by omega) (by decide), fun _ => ⟨fun q => ?_, fun q => ?_⟩, fun q => absurd (by decide) q⟩
    · rw [if_neg q] at h; exact m_held99 (h _ St.rf)
    · rw [if_pos q] at h; exact m_held99 (h _ St.rf)
  · rw [h3, if_neg (show ¬ nI z ≤ 0 from nI_ge (a := 0) (by omega) (by omega)), nI_clamp (by omega)] at h
    rw [h4]
    refine ⟨vp_in_nI (by omega) (by decide), fun q => ?_, fun _ => e_walks hw h1 h2 h4 h5 h6 (fun M1 hs => m_held99 (h _ hs))⟩
    have := Int32.lt_iff_toInt_lt.mp q
    rw [nI_toInt (by omega)] at this
    exact absurd this (by show ¬ (z : Int) < 0; omega)
