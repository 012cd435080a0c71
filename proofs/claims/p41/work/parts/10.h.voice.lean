/-! VOICES: the BODIES that run and what is said -/
def gL (k : Nat) : List Int32 := if k = 1 ∨ k = 4 then [20, 10] else [10]
def gR (n : Int32) (k : Nat) (x : Int32) : Int32 := if k = 1 ∨ k = 4 then (x + n) * 3 else x + n
def sL (k : Nat) : List Int32 := if k = 3 then [40, 12] else if k = 6 then [70, 40, 12] else [12]
def sR (n m : Int32) (k : Nat) (x : Int32) : Int32 := if k = 3 then -(x - m) else if k = 6 then (-(x - m)) ^^^ n else x - m
def c0L (o : Nat) : List Int32 := 11 :: gL o
def c0R (n : Int32) (o : Nat) (x : Int32) : Int32 := gR n o x * 2
def c2L (o : Nat) : List Int32 := 30 :: (c0L o ++ sL o)
def c2R (n m : Int32) (o : Nat) (x : Int32) : Int32 := c0R n o x - sR n m o 1
def cL (o f : Nat) : List Int32 := if f = 2 then c2L o else if f = 5 then 60 :: c2L o else c0L o
def cR (n m : Int32) (o f : Nat) (x : Int32) : Int32 := if f = 2 then c2R n m o x else if f = 5 then c2R n m o (x + 1) else c0R n o x
def t0L (o : Nat) : List Int32 := 13 :: (cL o o ++ sL o)
def t0R (n m : Int32) (o : Nat) (x : Int32) : Int32 := cR n m o o x ^^^ sR n m o x
def tL (o f : Nat) : List Int32 := if f = 4 then 50 :: (t0L o ++ gL o) else if f = 6 then 71 :: (cL o o ++ t0L o) else t0L o
def tR (n m : Int32) (o f : Nat) (x : Int32) : Int32 := if f = 4 then t0R n m o x - gR n o 2 else if f = 6 then cR n m o o x - t0R n m o x else t0R n m o x
def vL (o act : Nat) : List Int32 := if act = 0 then gL o else if act = 1 then cL o o else if act = 2 then sL o else tL o o
def vR (n m : Int32) (o act : Nat) (x : Int32) : Int32 := if act = 0 then gR n o x else if act = 1 then cR n m o o x else if act = 2 then sR n m o x else tR n m o o x
theorem gL_len (k : Nat) : (gL k).length ≤ 2 := by unfold gL; by_cases h : k = 1 ∨ k = 4 <;> simp [h]
theorem sL_len (k : Nat) : (sL k).length ≤ 3 := by unfold sL; by_cases h : k = 3 <;> by_cases h2 : k = 6 <;> simp [h, h2]
theorem c0L_len (k : Nat) : (c0L k).length ≤ 3 := by have := gL_len k; simp [c0L]; omega
theorem c2L_len (k : Nat) : (c2L k).length ≤ 7 := by have := c0L_len k; have := sL_len k; simp [c2L]; omega
theorem cL_len (o f : Nat) : (cL o f).length ≤ 8 := by
  have := c0L_len o; have := c2L_len o
  unfold cL; by_cases h : f = 2 <;> by_cases h2 : f = 5 <;> simp [h, h2] <;> omega
theorem t0L_len (o : Nat) : (t0L o).length ≤ 12 := by have := cL_len o o; have := sL_len o; simp [t0L]; omega
/-- the class' trace is L -/
def VT (o : Nat) (nn mm : Int32) (L : List Int32) (M0 M : Mem) : Prop := St (fun b => b == 67 || b == 68) M0 M ∧ M 67 1 = nI L.length ∧ M 67 2 = nI o ∧ M 67 3 = nn ∧ M 67 4 = mm ∧ ∀ k, k < L.length → M 68 k = L.getD k 0
section VX
variable {o : Nat} {nn mm : Int32} {L : List Int32} {M0 M : Mem}
theorem v_begin {b : Int32} {K : Mem → Prop} (h : VT o nn mm L M0 M) (hL : L.length + 1 ≤ 40) (hk : ∀ M1, VT o nn mm (L ++ [b]) M0 M1 → K M1) : wp_X5_begin b M K := by
  obtain ⟨h1, h2, h3, h4, h5, h6⟩ := h
  unfold wp_X5_begin
  rw [h2]
  refine pk_le 40 L.length (fun q => by omega) (fun q => ⟨vp_in_nI (by omega) (by decide), ?_⟩)
  rw [nI_clamp (by omega), up_cell (by decide), h2, nI_1]
  refine hk _ ⟨(h1.up rfl).up rfl, by rw [up_same, List.length_append]; rfl, ?_, ?_, ?_, fun k hk => ?_⟩
  · rw [up_slot _ (by decide), up_cell (by decide)]; exact h3
  · rw [up_slot _ (by decide), up_cell (by decide)]; exact h4
  · rw [up_slot _ (by decide), up_cell (by decide)]; exact h5
  · rw [up_cell (by decide)]
    simp only [List.length_append, List.length_cons, List.length_nil] at hk
    rcases Nat.lt_or_ge k L.length with g | g
    · rw [up_slot _ (by omega), h6 k g, List.getD_eq_getElem?_getD, List.getD_eq_getElem?_getD, List.getElem?_append_left g]
    · have : k = L.length := by omega
      subst this
      rw [up_same]; simp
theorem v_g0 {n : Nat} {x : Int32} {K : Int32 → Mem → Prop} (h : VT o nn mm L M0 M) (hL : L.length + 1 ≤ 40) (hk : ∀ M1, VT o nn mm (L ++ [10]) M0 M1 → K (x + nn) M1) : wpG_X5_sayGrinds (n + 1) 0 x M K := by
  show wpb_X5_sayGrinds (wpG_X5_sayGrinds n) 0 x M K
  unfold wpb_X5_sayGrinds
  refine ⟨fun e => absurd e (by decide), fun _ => ⟨fun e => absurd e (by decide), fun _ => v_begin h hL (fun M1 h1 => ?_)⟩⟩
  rw [h1.2.2.2.1]; exact hk _ h1
theorem v_g {k : Nat} {x : Int32} {K : Int32 → Mem → Prop} (hk6 : k ≤ 6) (h : VT o nn mm L M0 M) (hL : L.length + 2 ≤ 40) (hk : ∀ M1, VT o nn mm (L ++ gL k) M0 M1 → K (gR nn k x) M1) : wp_X5_sayGrinds 8 (nI k) x M K := by
  show wpb_X5_sayGrinds (wpG_X5_sayGrinds 7) (nI k) x M K
  unfold wpb_X5_sayGrinds
  have go : (k = 1 ∨ k = 4) → wp_X5_begin 20 M (fun M2 => wpG_X5_sayGrinds 7 0 x M2 (fun r3 M3 => K (r3 * 3) M3)) := fun e =>
    v_begin h (by omega) (fun M1 h1 => v_g0 h1 (by simp; omega) (fun M2 h2 => by
      have := hk M2 (by rw [gL, if_pos e]; simpa using h2)
      rw [gR, if_pos e] at this; exact this))
  refine pk_eq k 1 (fun e => go (Or.inl e)) (fun e1 => pk_eq k 4 (fun e => go (Or.inr e)) (fun e2 => v_begin h (by omega) (fun M1 h1 => ?_)))
  rw [h1.2.2.2.1]
  have := hk M1 (by rw [gL, if_neg (by omega)]; exact h1)
  rw [gR, if_neg (by omega)] at this; exact this
theorem v_s0 {n : Nat} {x : Int32} {K : Int32 → Mem → Prop} (h : VT o nn mm L M0 M) (hL : L.length + 1 ≤ 40) (hk : ∀ M1, VT o nn mm (L ++ [12]) M0 M1 → K (x - mm) M1) : wpG_X5_saySparks (n + 1) 0 x M K := by
  show wpb_X5_saySparks (wpG_X5_saySparks n) 0 x M K
  unfold wpb_X5_saySparks
  refine ⟨fun e => absurd e (by decide), fun _ => ⟨fun e => absurd e (by decide), fun _ => v_begin h hL (fun M1 h1 => ?_)⟩⟩
  rw [h1.2.2.2.2.1]; exact hk _ h1
theorem v_s3 {n : Nat} {x : Int32} {K : Int32 → Mem → Prop} (h : VT o nn mm L M0 M) (hL : L.length + 2 ≤ 40) (hk : ∀ M1, VT o nn mm (L ++ [40, 12]) M0 M1 → K (-(x - mm)) M1) : wpG_X5_saySparks (n + 2) 3 x M K := by
  show wpb_X5_saySparks (wpG_X5_saySparks (n + 1)) 3 x M K
  unfold wpb_X5_saySparks
  exact ⟨fun _ => v_begin h (by omega) (fun M1 h1 => v_s0 h1 (by simp; omega) (fun M2 h2 => hk M2 (by simpa using h2))), fun e => absurd rfl e⟩
theorem v_s {k : Nat} {x : Int32} {K : Int32 → Mem → Prop} (hk6 : k ≤ 6) (h : VT o nn mm L M0 M) (hL : L.length + 3 ≤ 40) (hk : ∀ M1, VT o nn mm (L ++ sL k) M0 M1 → K (sR nn mm k x) M1) : wp_X5_saySparks 8 (nI k) x M K := by
  rcases (by omega : k = 3 ∨ k ≠ 3) with rfl | e3
  · exact v_s3 (n := 6) h (by omega) hk
  · show wpb_X5_saySparks (wpG_X5_saySparks 7) (nI k) x M K
    unfold wpb_X5_saySparks
    refine pk_eq k 3 (fun e => absurd e e3) (fun _ => pk_eq k 6 (fun e => v_begin h (by omega) (fun M1 h1 => v_s3 (n := 5) h1 (by simp; omega) (fun M2 h2 => ?_))) (fun e6 => v_begin h (by omega) (fun M1 h1 => ?_)))
    · subst e
      rw [h2.2.2.2.1]
      exact hk M2 (by simpa [sL] using h2)
    · rw [h1.2.2.2.2.1]
      have := hk M1 (by rw [sL, if_neg e3, if_neg e6]; exact h1)
      rw [sR, if_neg e3, if_neg e6] at this; exact this
theorem v_c0 {n : Nat} {x : Int32} {K : Int32 → Mem → Prop} (ho : o ≤ 6) (h : VT o nn mm L M0 M) (hL : L.length + 3 ≤ 40) (hk : ∀ M1, VT o nn mm (L ++ c0L o) M0 M1 → K (c0R nn o x) M1) : wpG_X5_sayCuts (n + 1) 0 x M K := by
  show wpb_X5_sayCuts (wpG_X5_sayCuts n) 0 x M K
  unfold wpb_X5_sayCuts
  refine ⟨fun e => absurd e (by decide), fun _ => ⟨fun e => absurd e (by decide), fun _ => v_begin h (by omega) (fun M1 h1 => ?_)⟩⟩
  rw [h1.2.2.1]
  exact v_g ho h1 (by simp; omega) (fun M2 h2 => hk M2 (by simpa [c0L] using h2))
theorem v_c2 {n : Nat} {x : Int32} {K : Int32 → Mem → Prop} (ho : o ≤ 6) (h : VT o nn mm L M0 M) (hL : L.length + 7 ≤ 40) (hk : ∀ M1, VT o nn mm (L ++ c2L o) M0 M1 → K (c2R nn mm o x) M1) : wpG_X5_sayCuts (n + 2) 2 x M K := by
  show wpb_X5_sayCuts (wpG_X5_sayCuts (n + 1)) 2 x M K
  unfold wpb_X5_sayCuts
  refine ⟨fun _ => v_begin h (by omega) (fun M1 h1 => v_c0 ho h1 (by simp; omega) (fun M2 h2 => ?_)), fun e => absurd rfl e⟩
  rw [h2.2.2.1]
  have := c0L_len o
  exact v_s ho h2 (by simp; omega) (fun M3 h3 => hk M3 (by simpa [c2L] using h3))
theorem v_c {f : Nat} {x : Int32} {K : Int32 → Mem → Prop} (ho : o ≤ 6) (hf : f ≤ 6) (h : VT o nn mm L M0 M) (hL : L.length + 8 ≤ 40) (hk : ∀ M1, VT o nn mm (L ++ cL o f) M0 M1 → K (cR nn mm o f x) M1) : wp_X5_sayCuts 8 (nI f) x M K := by
  rcases (by omega : f = 2 ∨ f ≠ 2) with rfl | e2
  · exact v_c2 (n := 6) ho h (by omega) hk
  · show wpb_X5_sayCuts (wpG_X5_sayCuts 7) (nI f) x M K
    unfold wpb_X5_sayCuts
    refine pk_eq f 2 (fun e => absurd e e2) (fun _ => pk_eq f 5 (fun e => v_begin h (by omega) (fun M1 h1 => v_c2 (n := 5) ho h1 (by simp; omega) (fun M2 h2 => ?_))) (fun e5 => v_begin h (by omega) (fun M1 h1 => ?_)))
    · subst e
      exact hk M2 (by simpa [cL] using h2)
    · rw [h1.2.2.1]
      refine v_g ho h1 (by simp; omega) (fun M2 h2 => ?_)
      have := hk M2 (by rw [cL, if_neg e2, if_neg e5]; simpa [c0L] using h2)
      rw [cR, if_neg e2, if_neg e5] at this; exact this
theorem v_t0 {n f : Nat} {x : Int32} {K : Int32 → Mem → Prop} (ho : o ≤ 6) (hf : f ≤ 6) (h4 : f ≠ 4) (h6 : f ≠ 6) (h : VT o nn mm L M0 M) (hL : L.length + 12 ≤ 40) (hk : ∀ M1, VT o nn mm (L ++ t0L o) M0 M1 → K (t0R nn mm o x) M1) : wpG_X5_sayTells (n + 1) (nI f) x M K := by
  show wpb_X5_sayTells (wpG_X5_sayTells n) (nI f) x M K
  unfold wpb_X5_sayTells
  refine pk_eq f 4 (fun e => absurd e h4) (fun _ => pk_eq f 6 (fun e => absurd e h6) (fun _ => v_begin h (by omega) (fun M1 h1 => ?_)))
  rw [h1.2.2.1]
  refine v_c ho ho h1 (by simp; omega) (fun M2 h2 => ?_)
  rw [h2.2.2.1]
  have := cL_len o o
  exact v_s ho h2 (by simp; omega) (fun M3 h3 => hk M3 (by simpa [t0L] using h3))
theorem v_t {f : Nat} {x : Int32} {K : Int32 → Mem → Prop} (ho : o ≤ 6) (hf : f ≤ 6) (h : VT o nn mm L M0 M) (hL : L.length + 24 ≤ 40) (hk : ∀ M1, VT o nn mm (L ++ tL o f) M0 M1 → K (tR nn mm o f x) M1) : wp_X5_sayTells 8 (nI f) x M K := by
  have l1 := t0L_len o
  have l2 := cL_len o o
  rcases (by omega : f = 4 ∨ f = 6 ∨ (f ≠ 4 ∧ f ≠ 6)) with rfl | rfl | ⟨e4, e6⟩
  · show wpb_X5_sayTells (wpG_X5_sayTells 7) (nI 4) x M K
    unfold wpb_X5_sayTells
    refine ⟨fun _ => v_begin h (by omega) (fun M1 h1 => v_t0 (n := 6) (f := 1) ho (by omega) (by omega) (by omega) h1 (by simp; omega) (fun M2 h2 => ?_)), fun e => absurd rfl e⟩
    rw [h2.2.2.1]
    exact v_g ho h2 (by simp; omega) (fun M3 h3 => hk M3 (by simpa [tL] using h3))
  · show wpb_X5_sayTells (wpG_X5_sayTells 7) (nI 6) x M K
    unfold wpb_X5_sayTells
    refine ⟨fun e => absurd e (by decide), fun _ => ⟨fun _ => v_begin h (by omega) (fun M1 h1 => ?_), fun e => absurd rfl e⟩⟩
    rw [h1.2.2.1]
    refine v_c ho ho h1 (by simp; omega) (fun M2 h2 => v_t0 (n := 6) (f := 3) ho (by omega) (by omega) (by omega) h2 (by simp; omega) (fun M3 h3 => hk M3 (by simpa [tL] using h3)))
  · refine v_t0 (n := 7) ho hf e4 e6 h (by omega) (fun M1 h1 => ?_)
    have := hk M1 (by rw [tL, if_neg e4, if_neg e6]; exact h1)
    rw [tR, if_neg e4, if_neg e6] at this; exact this
end VX
theorem p_voice {n : Nat} {M : Mem} {K : Int32 → Mem → Prop} {a b x : Int32} (hC : CN n M) (hK : ∀ q : Nat, q < n → KindOK (M (14 + q) 0))
    (hg : ∀ j k c : Nat, j < n → a = nI j → k ≤ 6 → M (14 + j) 0 = nI k → c ≤ 3 → b = nI c → ∀ M1, VT k (nI j) (M (14 + j) 1) (vL k c) M M1 → K (vR (nI j) (M (14 + j) 1) k c x) M1)
    (hb : ¬ ((0 ≤ a.toInt ∧ a.toInt < n) ∧ 0 ≤ b.toInt ∧ b.toInt ≤ 3) → ∀ M1, St SX M M1 → K (-1000000001) M1) : wp_X7_voice a b x M K := by
  have hn := hC.1
  unfold wp_X7_voice
  refine q7z hC.1 hC.2.1 (fun j hj ej => ?_) (fun g => e7 1 (by decide) (by decide) (hb (fun h => g h.1) _ (St.rf.up rfl)))
  subst ej
  refine w7n 0 3 (by decide) (by decide) (fun g1 g2 => ?_) (fun g => e7 1 (by decide) (by decide) (hb (fun h => g h.2) _ (St.rf.up rfl)))
  obtain ⟨c, hc, rfl⟩ := nat_of (x := b) 3 g1 g2 (by decide)
  obtain ⟨k, hk, ek⟩ := hK j hj
  have hg := hg j k c hj rfl hk ek hc rfl
  rw [nI_clamp (by omega)]
  refine ⟨vp_in_nI (by omega) (by decide), ?_⟩
  unfold wp_X5_beginWith wp_X5_say
  have hv : VT k (nI j) (M (14 + j) 1) [] M (up (up (up (up M 67 1 0) 67 2 (M (14 + j) 0)) 67 3 (nI j)) 67 4 (M (14 + j) 1)) := ⟨(((St.rf.up rfl).up rfl).up rfl).up rfl, by simp [up]; rfl, by simp [up, ek], by simp [up], by simp [up], fun k hk => by simp at hk⟩
  have e2 : (up (up (up (up M 67 1 0) 67 2 (M (14 + j) 0)) 67 3 (nI j)) 67 4 (M (14 + j) 1)) 67 2 = nI k := hv.2.2.1
  dsimp only
  rw [e2]
  generalize (up (up (up (up M 67 1 0) 67 2 (M (14 + j) 0)) 67 3 (nI j)) 67 4 (M (14 + j) 1)) = M' at hv e2 ⊢
  refine pk_eq c 0 (fun e => ?_) (fun e0 => pk_eq c 1 (fun e => ?_) (fun e1 => pk_eq c 2 (fun e => ?_) (fun e2 => ?_)))
  · subst e; exact v_g hk hv (by simp) (fun M1 h1 => hg M1 (by simpa [vL] using h1))
  · subst e; exact v_c hk hk hv (by simp) (fun M1 h1 => hg M1 (by simpa [vL] using h1))
  · subst e; exact v_s hk hv (by simp) (fun M1 h1 => hg M1 (by simpa [vL] using h1))
  · refine v_t hk hk hv (by simp) (fun M1 h1 => ?_)
    have := hg M1 (by rw [vL, if_neg e0, if_neg e1, if_neg e2]; simpa using h1)
    rw [vR, if_neg e0, if_neg e1, if_neg e2] at this; exact this
theorem p_trace {z : Nat} {M : Mem} {K : Int32 → Mem → Prop} {a : Int32} (hz : z ≤ 40) (ez : M 67 1 = nI z) (hg : ∀ j : Nat, j < z → a = nI j → K (M 68 j) M) (hb : ¬ (0 ≤ a.toInt ∧ a.toInt < z) → ∀ M1, St SX M M1 → K (-1000000002) M1) : wp_X7_trace a M K := by
  unfold wp_X7_trace
  rw [ez]
  refine w7z 0 ((z : Int) - 1) (by decide) (nI_m1 (by omega)) (fun g1 g2 => ?_) (fun g => e7 2 (by decide) (by decide) (hb (by omega) _ (St.rf.up rfl)))
  obtain ⟨j, hj, rfl⟩ := nat_of (x := a) 39 g1 (by omega) (by decide)
  rw [nI_toInt (by omega)] at g2
  rw [nI_clamp (by omega)]
  exact ⟨vp_in_nI (by omega) (by decide), hg j (by omega) rfl⟩
