def tbS (s q : Nat) : Bool := s.testBit q
theorem set_tb {s m : Nat} (hs : s < 2 ^ m) : setM (tbS s) m = s := Nat.eq_of_testBit_eq (fun j => by
  rw [setM_bit]
  rcases Nat.lt_or_ge j m with g | g
  · rw [decide_eq_true g, Bool.true_and]; rfl
  · rw [decide_eq_false (by omega), Bool.false_and]
    exact (Nat.testBit_lt_two_pow (Nat.lt_of_lt_of_le hs (Nat.pow_le_pow_right (by omega) g))).symm)
theorem tb_at {s i : Nat} (hs : s < 2 ^ 31) (hi : i ≤ 10) : (nI s >>> (nI i &&& 31)) &&& 1 = nI (if tbS s i = true then 1 else 0) := by
  rw [bit_at hs hi]
  congr 1
  unfold tbS
  rw [Nat.testBit_eq_decide_div_mod_eq]
  by_cases c : s / 2 ^ i % 2 = 1
  · rw [decide_eq_true c, if_pos rfl, c]
  · rw [decide_eq_false c, if_neg (by decide)]; omega
theorem pc_add : ∀ m : Nat, m < 10 → ∀ x : Nat, x < 2 ^ m → pcN (x + 2 ^ m) = pcN x + 1 := by decide +kernel
theorem pc_set {P : Nat → Bool} : ∀ m, m ≤ 10 → pcN (setM P m) = cntF P m := by
  intro m
  induction m with
  | zero => intro _; show pcN 0 = 0; decide
  | succ m ih =>
    intro hm
    have hl := setM_lt (P := P) m
    show _ = (if P m = true then cntF P m + 1 else cntF P m)
    rw [setM_s]
    split
    · rw [pc_add m (by omega) _ hl, ih (by omega)]
    · exact ih (by omega)
theorem cnt_le {P Q : Nat → Bool} : ∀ m, (∀ q, q < m → P q = true → Q q = true) → cntF P m ≤ cntF Q m := by
  intro m
  induction m with
  | zero => intro _; exact Nat.le_refl _
  | succ m ih =>
    intro h
    have := ih (fun q hq => h q (by omega))
    show (if P m = true then cntF P m + 1 else cntF P m) ≤ (if Q m = true then cntF Q m + 1 else cntF Q m)
    by_cases c : P m = true
    · rw [if_pos c, if_pos (h m (by omega) c)]; omega
    · rw [if_neg c]; split <;> omega
theorem cnt_lt {P Q : Nat → Bool} : ∀ m, (∀ q, q < m → P q = true → Q q = true) → (∃ q, q < m ∧ Q q = true ∧ ¬ P q = true) → cntF P m < cntF Q m := by
  intro m
  induction m with
  | zero => rintro _ ⟨q, hq, -⟩; omega
  | succ m ih =>
    rintro h ⟨q, hq, hQ, hP⟩
    have hle := cnt_le (P := P) (Q := Q) m (fun q hq => h q (by omega))
    show (if P m = true then cntF P m + 1 else cntF P m) < (if Q m = true then cntF Q m + 1 else cntF Q m)
    by_cases e : q = m
    · subst e
      rw [if_neg hP, if_pos hQ]; omega
    · have := ih (fun q hq => h q (by omega)) ⟨q, by omega, hQ, hP⟩
      by_cases c : P m = true
      · rw [if_pos c, if_pos (h m (by omega) c)]; omega
      · rw [if_neg c]; split <;> omega
theorem set_le {P Q : Nat → Bool} : ∀ m, (∀ q, q < m → P q = true → Q q = true) → setM P m ≤ setM Q m := by
  intro m
  induction m with
  | zero => intro _; exact Nat.le_refl _
  | succ m ih =>
    intro h
    have := ih (fun q hq => h q (by omega))
    have hpos := Nat.two_pow_pos m
    rw [setM_s, setM_s]
    by_cases c : P m = true
    · rw [if_pos c, if_pos (h m (by omega) c)]; omega
    · rw [if_neg c]; split <;> omega
theorem set_one {j : Nat} : ∀ m, j < m → setM (fun r => decide (r = j)) m = 2 ^ j := by
  intro m
  induction m with
  | zero => intro h; omega
  | succ m ih =>
    intro hm
    rw [setM_s]
    by_cases e : m = j
    · subst e
      rw [if_pos (decide_eq_true rfl)]
      have : ∀ k, k ≤ m → setM (fun r => decide (r = m)) k = 0 := by
        intro k
        induction k with
        | zero => intro _; rfl
        | succ k ihk => intro hk; rw [setM_s, if_neg (by intro c; have := of_decide_eq_true c; omega), ihk (by omega)]
      rw [this m (Nat.le_refl m)]; omega
    · rw [if_neg (by intro c; exact e (of_decide_eq_true c)), ih (by omega)]
/-- the best of the sets below m: the first with the fewest -/
def bst (ok : Nat → Bool) : Nat → Int32
  | 0 => -1
  | s + 1 => if ok s = true ∧ (bst ok s < 0 ∨ pcN s < pcN (bst ok s).toNatClampNeg) then nI s else bst ok s
theorem bst_s {ok : Nat → Bool} {s : Nat} : bst ok (s + 1) = if ok s = true ∧ (bst ok s < 0 ∨ pcN s < pcN (bst ok s).toNatClampNeg) then nI s else bst ok s := rfl
theorem bst_c {ok : Nat → Bool} : ∀ m, m ≤ 512 → (bst ok m = -1 ∧ ∀ s, s < m → ok s = false) ∨ ∃ b, b < m ∧ bst ok m = nI b ∧ ∀ s, s < m → ok s = true → pcN b ≤ pcN s := by
  intro m
  induction m with
  | zero => intro _; exact Or.inl ⟨rfl, fun s hs => absurd hs (Nat.not_lt_zero s)⟩
  | succ m ih =>
    intro hm
    rw [bst_s]
    rcases ih (by omega) with ⟨e, hno⟩ | ⟨b, hb, e, hmin⟩
    · rw [e]
      by_cases c : ok m = true
      · rw [if_pos ⟨c, Or.inl (by decide)⟩]
        refine Or.inr ⟨m, by omega, rfl, fun s hs h => ?_⟩
        rcases Nat.lt_or_ge s m with g | g
        · rw [hno s g] at h; cases h
        · rw [show s = m by omega]; exact Nat.le_refl _
      · rw [if_neg (fun x => c x.1)]
        refine Or.inl ⟨rfl, fun s hs => ?_⟩
        rcases Nat.lt_or_ge s m with g | g
        · exact hno s g
        · rw [show s = m by omega]; exact Bool.eq_false_iff.mpr c
    · rw [e, nI_clamp (by omega)]
      by_cases c : ok m = true ∧ (nI b < 0 ∨ pcN m < pcN b)
      · rw [if_pos c]
        have hlt : pcN m < pcN b := c.2.resolve_left (nI_pos (by omega))
        refine Or.inr ⟨m, by omega, rfl, fun s hs h => ?_⟩
        rcases Nat.lt_or_ge s m with g | g
        · have := hmin s g h; omega
        · rw [show s = m by omega]; exact Nat.le_refl _
      · rw [if_neg c]
        refine Or.inr ⟨b, by omega, rfl, fun s hs h => ?_⟩
        rcases Nat.lt_or_ge s m with g | g
        · exact hmin s g h
        · have : s = m := by omega
          subst this
          rcases Nat.lt_or_ge (pcN s) (pcN b) with g2 | g2
          · exact absurd ⟨h, Or.inr g2⟩ c
          · exact g2
theorem bst_eq {ok ok2 : Nat → Bool} : ∀ m, m ≤ 512 → (∀ s, s < m → ok s = true → ok2 s = true) → (∀ s, s < m → ok2 s = true → ¬ ok s = true → ∃ s', s' < s ∧ ok s' = true ∧ pcN s' < pcN s) → bst ok m = bst ok2 m := by
  intro m
  induction m with
  | zero => intro _ _ _; rfl
  | succ m ih =>
    intro hm h1 h2
    have e := ih (by omega) (fun s hs => h1 s (by omega)) (fun s hs => h2 s (by omega))
    rw [bst_s, bst_s, ← e]
    by_cases c : ok m = true
    · have c2 := h1 m (by omega) c
      by_cases d : bst ok m < 0 ∨ pcN m < pcN (bst ok m).toNatClampNeg
      · rw [if_pos ⟨c, d⟩, if_pos ⟨c2, d⟩]
      · rw [if_neg (fun x => d x.2), if_neg (fun x => d x.2)]
    · rw [if_neg (fun x => c x.1)]
      by_cases c2 : ok2 m = true
      · obtain ⟨s', s1, s2, s3⟩ := h2 m (by omega) c2 c
        rw [if_neg]
        rintro ⟨-, d⟩
        rcases bst_c (ok := ok) m (by omega) with ⟨-, hno⟩ | ⟨b, hb, e2, hmin⟩
        · rw [hno s' s1] at s2; cases s2
        · rw [e2, nI_clamp (by omega)] at d
          have := hmin s' s1 s2
          rcases d with d | d
          · exact absurd d (nI_pos (by omega))
          · omega
      · rw [if_neg (fun x => c2 x.1)]
theorem bst_stay {ok : Nat → Bool} {m : Nat} : ∀ k, m ≤ k → (∀ s, m ≤ s → s < k → ok s = false) → bst ok k = bst ok m := by
  intro k
  induction k with
  | zero => intro h _; rw [show m = 0 by omega]
  | succ k ih =>
    intro h hno
    rcases Nat.lt_or_ge k m with g | g
    · rw [show m = k + 1 by omega]
    · rw [bst_s, if_neg (fun x => by rw [hno k g (by omega)] at x; cases x.1)]
      exact ih g (fun s s1 s2 => hno s s1 (by omega))
section AS
variable {n b t i : Nat} {h : Nat → Int32} {V : Nat → Nat} {M X : Mem} {K : Int32 → Mem → Prop}
def wkH (lg lh : Nat → Nat → Nat → Nat) (h : Nat → Int32) (n : Nat) (V : Nat → Nat) (j N s : Nat) : Bool := decide (passN lg lh true h n N (shV (tbS s) n V) (16 + 7 * j) ≠ 0)
def enH (V : Nat → Nat) (q : Nat) : Bool := decide (V (16 + 7 * q) ≠ 0)
def hpH (h : Nat → Int32) (n : Nat) (V : Nat → Nat) (j q : Nat) : Bool := decide (q < n) && (chC h j q && !enH V q)
def okC (lg lh : Nat → Nat → Nat → Nat) (h : Nat → Int32) (n : Nat) (V : Nat → Nat) (j N s : Nat) : Bool := decide (setM (fun q => tbS s q && !hpH h n V j q) 9 = 0) && wkH lg lh h n V j N s
def okM (lg lh : Nat → Nat → Nat → Nat) (h : Nat → Int32) (n : Nat) (V : Nat → Nat) (j N s : Nat) : Bool := decide (setM (fun q => tbS s q && enH V q) n = 0) && wkH lg lh h n V j N s
theorem set_no {P : Nat → Bool} {m : Nat} (hm : m ≤ 10) (h : setM P m = 0) : ∀ q, q < m → P q = false := (set_0 hm).mp (by rw [h]; rfl)
theorem no_set {P : Nat → Bool} {m : Nat} (hm : m ≤ 10) (h : ∀ q, q < m → P q = false) : setM P m = 0 := by
  have hl := setM_lt (P := P) m
  have hp : 2 ^ m ≤ 2 ^ 10 := Nat.pow_le_pow_right (by omega) hm
  exact (nI_eq (b := 0) (by omega) (by omega)).mp ((set_0 hm).mpr h)
theorem bst_hand {lg lh : Nat → Nat → Nat → Nat} {j N : Nat} (hH : HH n h) (hn : n ≤ 9) (hj : j < n) : bst (okC lg lh h n V j N) 512 = bst (okM lg lh h n V j N) (2 ^ n) := by
  have hp := pow_9 hn
  have sub : ∀ s, okC lg lh h n V j N s = true → ∀ q, q < 9 → tbS s q = true → hpH h n V j q = true := fun s hs q hq ht => by
    unfold okC at hs
    rw [Bool.and_eq_true] at hs
    have := set_no (by omega) (of_decide_eq_true hs.1) q hq
    have this : (tbS s q && !hpH h n V j q) = false := this
    rw [ht, Bool.true_and] at this
    cases c : hpH h n V j q
    · rw [c] at this; cases this
    · rfl
  rw [bst_stay (m := 2 ^ n) 512 (by omega) (fun s s1 s2 => ?_)]
  · refine bst_eq (2 ^ n) (by omega) (fun s hs hc => ?_) (fun s hs hm hc => ?_)
    · have hsub := sub s hc
      unfold okC at hc
      unfold okM
      rw [Bool.and_eq_true] at hc ⊢
      refine ⟨decide_eq_true (no_set (by omega) (fun q hq => ?_)), hc.2⟩
      show (tbS s q && enH V q) = false
      cases c1 : tbS s q
      · rfl
      · have := hsub q (by omega) c1
        unfold hpH at this
        rw [Bool.and_eq_true, Bool.and_eq_true] at this
        have h3 := this.2.2
        cases c2 : enH V q
        · rfl
        · rw [c2] at h3; cases h3
    · -- a set with others: without them it does as well
      unfold okM at hm
      rw [Bool.and_eq_true] at hm
      have hdis := set_no (by omega) (of_decide_eq_true hm.1)
      have hdis : ∀ q, q < n → tbS s q = true → enH V q = false := fun q hq ht => by
        have this : (tbS s q && enH V q) = false := hdis q hq
        rw [ht, Bool.true_and] at this; exact this
      have hs9 : s < 2 ^ 9 := by omega
      have hin : ∀ q, tbS s q = true → q < n := fun q ht => by
        rcases Nat.lt_or_ge q n with g | g
        · exact g
        · have : s.testBit q = false := Nat.testBit_lt_two_pow (Nat.lt_of_lt_of_le hs (Nat.pow_le_pow_right (by omega) g))
          have ht : s.testBit q = true := ht
          rw [this] at ht; cases ht
      have hs' : setM (fun q => tbS s q && hpH h n V j q) 9 < 2 ^ 9 := setM_lt 9
      have htb : ∀ q, tbS (setM (fun q => tbS s q && hpH h n V j q) 9) q = (decide (q < 9) && (tbS s q && hpH h n V j q)) := fun q => setM_bit 9 q
      have hw : wkH lg lh h n V j N (setM (fun q => tbS s q && hpH h n V j q) 9) = wkH lg lh h n V j N s := by
        have ha : AG (chC h j) (shV (tbS (setM (fun q => tbS s q && hpH h n V j q) 9)) n V) (shV (tbS s) n V) := ag_shV (fun q hq => by
          rw [htb]
          have hq1 := chC_lt hH hn hj hq
          rw [decide_eq_true (show q < 9 by omega), Bool.true_and]
          cases c1 : tbS s q
          · rfl
          · rw [Bool.true_and]
            unfold hpH
            rw [decide_eq_true (show q < n by omega), hq, hdis q (by omega) c1]; rfl) n
        have := (ag_pass (lg := lg) (lh := lh) hH hn (chC_cl hH hn hj) ha N).2.2.2 j chC_q 16 (by omega) (by omega)
        unfold wkH
        rw [this]
      have hlt : ∃ q, q < 9 ∧ tbS s q = true ∧ ¬ (tbS s q && hpH h n V j q) = true := by
        by_cases hex : ∃ q, q < 9 ∧ tbS s q = true ∧ ¬ (tbS s q && hpH h n V j q) = true
        · exact hex
        · refine absurd ?_ hc
          unfold okC
          rw [Bool.and_eq_true]
          refine ⟨decide_eq_true (no_set (by omega) (fun q hq => ?_)), hm.2⟩
          show (tbS s q && !hpH h n V j q) = false
          cases c1 : tbS s q
          · rfl
          · cases c2 : hpH h n V j q
            · exact absurd ⟨q, hq, c1, by rw [c1, c2]; decide⟩ hex
            · rfl
      have hcl : cntF (fun q => tbS s q && hpH h n V j q) 9 < cntF (tbS s) 9 := cnt_lt 9 (fun q _ hq => by
        have hq : (tbS s q && hpH h n V j q) = true := hq
        rw [Bool.and_eq_true] at hq; exact hq.1) hlt
      have hle := set_le (P := fun q => tbS s q && hpH h n V j q) (Q := tbS s) 9 (fun q _ hq => by
        have hq : (tbS s q && hpH h n V j q) = true := hq
        rw [Bool.and_eq_true] at hq; exact hq.1)
      rw [set_tb hs9] at hle
      have hpc : pcN (setM (fun q => tbS s q && hpH h n V j q) 9) < pcN s := by
        have e1 := pc_set (P := fun q => tbS s q && hpH h n V j q) 9 (by omega)
        have e2 := pc_set (P := tbS s) 9 (by omega)
        rw [set_tb hs9] at e2
        rw [e1, e2]; exact hcl
      refine ⟨setM (fun q => tbS s q && hpH h n V j q) 9, ?_, ?_, hpc⟩
      · rcases Nat.lt_or_ge (setM (fun q => tbS s q && hpH h n V j q) 9) s with g | g
        · exact g
        · have : setM (fun q => tbS s q && hpH h n V j q) 9 = s := by omega
          rw [this] at hpc; omega
      · unfold okC
        rw [Bool.and_eq_true]
        refine ⟨decide_eq_true (no_set (by omega) (fun q hq => ?_)), by rw [hw]; exact hm.2⟩
        show (tbS (setM (fun q => tbS s q && hpH h n V j q) 9) q && !hpH h n V j q) = false
        rw [htb, decide_eq_true hq, Bool.true_and]
        cases tbS s q <;> cases hpH h n V j q <;> rfl
  · -- a set with one that is not there
    cases c : okC lg lh h n V j N s
    · rfl
    · have hsub := sub s c
      have : s = 0 ∨ ∃ q, n ≤ q ∧ q < 9 ∧ tbS s q = true := by
        by_cases hex : ∃ q, n ≤ q ∧ q < 9 ∧ tbS s q = true
        · exact Or.inr hex
        · exfalso
          have hlt : setM (tbS s) 9 = setM (tbS s) n := by
            have key : ∀ k, n ≤ k → k ≤ 9 → setM (tbS s) k = setM (tbS s) n := by
              intro k
              induction k with
              | zero => intro h _; rw [show n = 0 by omega]
              | succ k ih =>
                intro h1 h2
                rcases Nat.lt_or_ge k n with g | g
                · rw [show n = k + 1 by omega]
                · rw [setM_s, if_neg (fun c => hex ⟨k, g, by omega, c⟩), ih g (by omega)]
            exact key 9 hn (Nat.le_refl 9)
          rw [set_tb (by omega)] at hlt
          have := setM_lt (P := tbS s) n
          omega
      rcases this with rfl | ⟨q, q1, q2, q3⟩
      · have := Nat.two_pow_pos n
        omega
      · have := hsub q q2 q3
        unfold hpH at this
        rw [decide_eq_false (by omega), Bool.false_and] at this; cases this
end AS
