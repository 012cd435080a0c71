/-- on what each hangs: none, or one before it -/
def HH (n : Nat) (h : Nat → Int32) : Prop := ∀ q : Nat, q < n → h q = -1 ∨ ∃ j : Nat, j < q ∧ h q = nI j
def freeN (h : Nat → Int32) (q : Nat) (V : Nat → Nat) : Bool := decide (h q = -1) || decide (V (16 + 7 * (h q).toNatClampNeg) ≠ 0)
theorem freeN_iff {h : Nat → Int32} {q : Nat} {V : Nat → Nat} : freeN h q V = true ↔ h q = -1 ∨ V (16 + 7 * (h q).toNatClampNeg) ≠ 0 := by simp [freeN]
def end1 (lh : Nat → Nat → Nat → Nat) (wh : Bool) (h : Nat → Int32) (q : Nat) (V : Nat → Nat) : Nat → Nat :=
  if V (16 + 7 * q) = 0 then
    (if needN (V (11 + 7 * q)) (V (12 + 7 * q)) ≤ V (14 + 7 * q) ∧ freeN h q V = true then adf V (16 + 7 * q) 1
     else adf (adf (if wh = true then adf V 9 (min 99999 (V 9 + lh (V (14 + 7 * q)) (V (17 + 7 * q)) (V (12 + 7 * q)))) else V) (14 + 7 * q) (V (14 + 7 * q) - dullN (V (11 + 7 * q)))) (17 + 7 * q) (min 999 (V (17 + 7 * q) + 1)))
  else V
def endN (lh : Nat → Nat → Nat → Nat) (wh : Bool) (h : Nat → Int32) : Nat → (Nat → Nat) → Nat → Nat
  | 0, V => V
  | n + 1, V => end1 lh wh h n (endN lh wh h n V)
theorem e_free {g n i : Nat} {h : Nat → Int32} {V : Nat → Nat} {M : Mem} {K : Int32 → Mem → Prop} (hF : GF g) (hR : RG g n h V M) (hV : RV n V) (hH : HH n h) (hi : i < n) (h1 : freeN h i V = true → K 1 M) (h0 : ¬ freeN h i V = true → K 0 M) : wp_X0_isFree g (g + 2 + i) M K := by
  have hn9 := hV.1
  rw [freeN_iff] at h1 h0
  unfold wp_X0_isFree
  rw [(hR.2.2.2.2.2 i hi).2.2.2.2.1, hR.1]
  rcases hH i hi with e | ⟨j, hj, e⟩
  · refine w7 0 ((n : Int) - 1) rfl (nI_m1 (by omega)) (fun g1 _ => ?_) (fun _ => ⟨fun _ => h1 (Or.inl e), fun q => absurd rfl q⟩)
    rw [e] at g1; exact absurd g1 (by decide)
  · have hne : h i ≠ -1 := by
      rw [e]; intro q
      have := congrArg Int32.toInt q
      rw [nI_toInt (by omega)] at this
      have h3 : (-1 : Int32).toInt = -1 := rfl
      omega
    refine w7 0 ((n : Int) - 1) rfl (nI_m1 (by omega)) (fun _ _ => ⟨fun q => absurd q (by decide), fun _ => ?_⟩) (fun g1 => absurd ⟨by rw [e, nI_toInt (by omega)]; omega, by rw [e, nI_toInt (by omega)]; omega⟩ g1)
    rw [e, nI_clamp (by omega)] at h1 h0
    rw [e] at hne
    have ho := (hR.2.2.2.2.2 j (by omega)).2.2.2.2.2.1
    have hv := (hV.2.2.2.2.2.2 j (by omega)).2.2.2.2.1
    rw [(hR.2.2.2.2.2 i hi).2.2.2.2.1, e, hF.one (by omega), ho]
    refine ⟨hF.vp (by omega), fun q => h0 (fun c => ?_), fun q => h1 (Or.inr (fun c => q (by rw [c]; rfl)))⟩
    have hz : V (16 + 7 * j) = 0 := (nI_eq (a := V (16 + 7 * j)) (b := 0) (by omega) (by omega)).mp q
    exact c.elim hne (fun d => d hz)
