/-! the grammar said as a function: place p, steps k, the steps' numbers f; and whether it was good -/
abbrev PS : Type := Nat × Nat × (Nat → Nat)
abbrev PRs : Type := Bool × Nat × Nat × (Nat → Nat)
def nx (T : Nat → Int32) (m p : Nat) : Int32 := if p < m then T p else -1
def isD (x : Int32) : Bool := decide (48 ≤ x.toInt) && decide (x.toInt ≤ 57)
def nmO (u : Nat) (x : Int32) : Nat := if x = 101 then 0 else if x = 97 then 1 else if x = (if u = 0 then 100 else 109) then 2 else 3
def lvO (x : Int32) : Nat := if x = 37 then 4 else if x = 38 then 1 else if x = 42 then 4 else if x = 43 then 3 else if x = 45 then 3 else if x = 47 then 4 else if x = 60 then 2 else if x = 61 then 2 else if x = 62 then 2 else if x = 124 then 0 else 6
def adf (f : Nat → Nat) (k v : Nat) : Nat → Nat := fun j => if j = k then v else f j
theorem adf_s {f : Nat → Nat} {k v : Nat} : adf f k v k = v := if_pos rfl
theorem adf_o {f : Nat → Nat} {k v j : Nat} (h : j ≠ k) : adf f k v j = f j := if_neg h
def numS (T : Nat → Int32) (m : Nat) : Nat → Nat → Nat → Nat × Nat
  | 0, v, p => (v, p)
  | i + 1, v, p => if isD (nx T m p) = true then numS T m i (10 * v + ((nx T m p).toNatClampNeg - 48)) (p + 1) else (v, p)
def lpS (T : Nat → Int32) (m : Nat) (q : PS → PRs) (lev : Nat) : Nat → PRs → PRs
  | 0, r => r
  | w + 1, r => if r.1 = true ∧ lvO (nx T m r.2.1) = lev then
      (if (q (r.2.1 + 1, r.2.2)).1 = true then lpS T m q lev w (true, (q (r.2.1 + 1, r.2.2)).2.1, (q (r.2.1 + 1, r.2.2)).2.2.1 + 1, adf (q (r.2.1 + 1, r.2.2)).2.2.2 (q (r.2.1 + 1, r.2.2)).2.2.1 (20000 + (nx T m r.2.1).toNatClampNeg)) else q (r.2.1 + 1, r.2.2))
    else r
def LVs (T : Nat → Int32) (m : Nat) (q : PS → PRs) : Nat → PS → PRs
  | 0 => q
  | j + 1 => fun s => lpS T m (LVs T m q j) (4 - j) (if 4 - j = 2 then 1 else 50) (LVs T m q j s)
def leafS (T : Nat → Int32) (m u : Nat) (opn : Int32 → PRs) (s : PS) : PRs :=
  if isD (nx T m s.1) = true then (true, (numS T m 4 0 s.1).2, s.2.1 + 1, adf s.2.2 s.2.1 (numS T m 4 0 s.1).1)
  else if nmO u (nx T m s.1) < 3 then (true, s.1 + 1, s.2.1 + 1, adf s.2.2 s.2.1 (10000 + nmO u (nx T m s.1)))
  else if nx T m s.1 = 33 ∨ nx T m s.1 = 40 then opn (nx T m s.1) else (false, s)
def notS (r : PRs) : PRs := if r.1 = true then (true, r.2.1, r.2.2.1 + 1, adf r.2.2.2 r.2.2.1 20033) else r
def brkS (T : Nat → Int32) (m : Nat) (r : PRs) : PRs := if r.1 = true then (if nx T m r.2.1 = 41 then (true, r.2.1 + 1, r.2.2) else (false, r.2)) else r
def QQ (T : Nat → Int32) (m u : Nat) : Nat → PS → PRs
  | 0 => fun s => leafS T m u (fun _ => (false, s)) s
  | r + 1 => fun s => leafS T m u (fun x => if x = 33 then notS (QQ T m u r (s.1 + 1, s.2)) else brkS T m (LVs T m (QQ T m u r) 5 (s.1 + 1, s.2))) s
/-- places and steps keep in step -/
def GoodQ (m : Nat) (q : PS → PRs) : Prop := ∀ s : PS, s.1 ≤ m → s.1 ≤ (q s).2.1 ∧ (q s).2.1 ≤ m ∧ ((q s).1 = true → s.1 + (q s).2.2.1 ≤ (q s).2.1 + s.2.1 ∧ s.2.1 + 1 ≤ (q s).2.2.1)
theorem nx_lt {T : Nat → Int32} {m p : Nat} (h : nx T m p ≠ -1) : p < m := by
  unfold nx at h
  rcases Nat.lt_or_ge p m with g | g
  · exact g
  · rw [if_neg (by omega)] at h; exact absurd rfl h
theorem isD_ne {x : Int32} (h : isD x = true) : x ≠ -1 := by
  intro e; subst e; exact absurd h (by decide)
theorem nmO_ne {u : Nat} {x : Int32} (h : nmO u x < 3) : x ≠ -1 := by
  intro e; subst e
  unfold nmO at h
  rw [if_neg (by decide), if_neg (by decide), if_neg (by split <;> decide)] at h
  omega
theorem lvO_ne {x : Int32} (h : lvO x < 5) : x ≠ -1 := by
  intro e; subst e; exact absurd h (by decide)
theorem numS_le {T : Nat → Int32} {m : Nat} : ∀ (i v p : Nat), p ≤ m → p ≤ (numS T m i v p).2 ∧ (numS T m i v p).2 ≤ m := by
  intro i
  induction i with
  | zero => intro v p h; exact ⟨Nat.le_refl _, h⟩
  | succ i ih =>
    intro v p h
    unfold numS
    by_cases e : isD (nx T m p) = true
    · rw [if_pos e]
      have := nx_lt (isD_ne e)
      have := ih (10 * v + ((nx T m p).toNatClampNeg - 48)) (p + 1) (by omega)
      omega
    · rw [if_neg e]; exact ⟨Nat.le_refl _, h⟩
theorem lpS_good {T : Nat → Int32} {m : Nat} {q : PS → PRs} {lev : Nat} (hl : lev < 5) (hq : GoodQ m q) : ∀ (w : Nat) (r : PRs), r.2.1 ≤ m → r.2.1 ≤ (lpS T m q lev w r).2.1 ∧ (lpS T m q lev w r).2.1 ≤ m ∧ ((lpS T m q lev w r).1 = true → r.1 = true ∧ r.2.1 + (lpS T m q lev w r).2.2.1 ≤ (lpS T m q lev w r).2.1 + r.2.2.1 ∧ r.2.2.1 ≤ (lpS T m q lev w r).2.2.1) := by
  intro w
  induction w with
  | zero => intro r h; exact ⟨Nat.le_refl _, h, fun e => ⟨e, Nat.le_refl _, Nat.le_refl _⟩⟩
  | succ w ih =>
    intro r h
    unfold lpS
    by_cases e : r.1 = true ∧ lvO (nx T m r.2.1) = lev
    · rw [if_pos e]
      have hp := nx_lt (lvO_ne (x := nx T m r.2.1) (by rw [e.2]; exact hl))
      have h1 := hq (r.2.1 + 1, r.2.2) (by show r.2.1 + 1 ≤ m; omega)
      have h1a : r.2.1 + 1 ≤ (q (r.2.1 + 1, r.2.2)).2.1 := h1.1
      by_cases e2 : (q (r.2.1 + 1, r.2.2)).1 = true
      · rw [if_pos e2]
        have h2 := ih (true, (q (r.2.1 + 1, r.2.2)).2.1, (q (r.2.1 + 1, r.2.2)).2.2.1 + 1, adf (q (r.2.1 + 1, r.2.2)).2.2.2 (q (r.2.1 + 1, r.2.2)).2.2.1 (20000 + (nx T m r.2.1).toNatClampNeg)) h1.2.1
        have h1b : r.2.1 + 1 + (q (r.2.1 + 1, r.2.2)).2.2.1 ≤ (q (r.2.1 + 1, r.2.2)).2.1 + r.2.2.1 ∧ r.2.2.1 + 1 ≤ (q (r.2.1 + 1, r.2.2)).2.2.1 := h1.2.2 e2
        obtain ⟨g1, g2, g3⟩ := h2
        simp only at g1 g2 g3
        refine ⟨by omega, g2, fun g => ?_⟩
        have := g3 g
        refine ⟨e.1, ?_, ?_⟩ <;> omega
      · rw [if_neg e2]
        exact ⟨by omega, h1.2.1, fun g => absurd g e2⟩
    · rw [if_neg e]; exact ⟨Nat.le_refl _, h, fun e => ⟨e, Nat.le_refl _, Nat.le_refl _⟩⟩
theorem LVs_good {T : Nat → Int32} {m : Nat} {q : PS → PRs} (hq : GoodQ m q) : ∀ j, GoodQ m (LVs T m q j) := by
  intro j
  induction j with
  | zero => exact hq
  | succ j ih =>
    intro s hs
    show s.1 ≤ (lpS T m (LVs T m q j) (4 - j) (if 4 - j = 2 then 1 else 50) (LVs T m q j s)).2.1 ∧ _
    have h1 := ih s hs
    have h2 := lpS_good (T := T) (lev := 4 - j) (by omega) ih (if 4 - j = 2 then 1 else 50) (LVs T m q j s) h1.2.1
    obtain ⟨a1, a2, a3⟩ := h1
    obtain ⟨b1, b2, b3⟩ := h2
    refine ⟨by omega, b2, fun g => ?_⟩
    have c := b3 g
    have d := a3 c.1
    show s.1 + (lpS T m (LVs T m q j) (4 - j) (if 4 - j = 2 then 1 else 50) (LVs T m q j s)).2.2.1 ≤ (lpS T m (LVs T m q j) (4 - j) (if 4 - j = 2 then 1 else 50) (LVs T m q j s)).2.1 + s.2.1 ∧ s.2.1 + 1 ≤ (lpS T m (LVs T m q j) (4 - j) (if 4 - j = 2 then 1 else 50) (LVs T m q j s)).2.2.1
    constructor <;> omega
theorem leafS_good {T : Nat → Int32} {m u : Nat} {opn : Int32 → PRs} {s : PS} (hs : s.1 ≤ m) (ho : ∀ x, x ≠ -1 → nx T m s.1 = x → s.1 ≤ (opn x).2.1 ∧ (opn x).2.1 ≤ m ∧ ((opn x).1 = true → s.1 + (opn x).2.2.1 ≤ (opn x).2.1 + s.2.1 ∧ s.2.1 + 1 ≤ (opn x).2.2.1)) : s.1 ≤ (leafS T m u opn s).2.1 ∧ (leafS T m u opn s).2.1 ≤ m ∧ ((leafS T m u opn s).1 = true → s.1 + (leafS T m u opn s).2.2.1 ≤ (leafS T m u opn s).2.1 + s.2.1 ∧ s.2.1 + 1 ≤ (leafS T m u opn s).2.2.1) := by
  unfold leafS
  by_cases e : isD (nx T m s.1) = true
  · rw [if_pos e]
    have hp := nx_lt (isD_ne e)
    have h4 : numS T m 4 0 s.1 = numS T m 3 (10 * 0 + ((nx T m s.1).toNatClampNeg - 48)) (s.1 + 1) := by
      show (if isD (nx T m s.1) = true then _ else _) = _
      rw [if_pos e]
    have := numS_le (T := T) (m := m) 3 (10 * 0 + ((nx T m s.1).toNatClampNeg - 48)) (s.1 + 1) (by omega)
    rw [← h4] at this
    refine ⟨by show s.1 ≤ (numS T m 4 0 s.1).2; omega, this.2, fun _ => ⟨by show s.1 + (s.2.1 + 1) ≤ (numS T m 4 0 s.1).2 + s.2.1; omega, Nat.le_refl _⟩⟩
  · rw [if_neg e]
    by_cases e1 : nmO u (nx T m s.1) < 3
    · rw [if_pos e1]
      have hp := nx_lt (nmO_ne e1)
      exact ⟨by show s.1 ≤ s.1 + 1; omega, hp, fun _ => ⟨by show s.1 + (s.2.1 + 1) ≤ s.1 + 1 + s.2.1; omega, Nat.le_refl _⟩⟩
    · rw [if_neg e1]
      by_cases e2 : nx T m s.1 = 33 ∨ nx T m s.1 = 40
      · rw [if_pos e2]
        exact ho _ (by rcases e2 with q | q <;> rw [q] <;> decide) rfl
      · rw [if_neg e2]
        exact ⟨Nat.le_refl _, hs, fun g => absurd (show (false : Bool) = true from g) (by decide)⟩
theorem QQ_good {T : Nat → Int32} {m u : Nat} : ∀ r, GoodQ m (QQ T m u r) := by
  intro r
  induction r with
  | zero =>
    intro s hs
    exact leafS_good hs (fun x _ _ => ⟨Nat.le_refl _, hs, fun g => absurd (show (false : Bool) = true from g) (by decide)⟩)
  | succ r ih =>
    intro s hs
    refine leafS_good hs (fun x hx hn => ?_)
    have hp : s.1 < m := nx_lt (by rw [hn]; exact hx)
    by_cases e : x = 33
    · simp only [if_pos e]
      have h1 := ih (s.1 + 1, s.2) (by show s.1 + 1 ≤ m; omega)
      have h1a : s.1 + 1 ≤ (QQ T m u r (s.1 + 1, s.2)).2.1 := h1.1
      unfold notS
      by_cases e2 : (QQ T m u r (s.1 + 1, s.2)).1 = true
      · rw [if_pos e2]
        have h1b : s.1 + 1 + (QQ T m u r (s.1 + 1, s.2)).2.2.1 ≤ (QQ T m u r (s.1 + 1, s.2)).2.1 + s.2.1 ∧ s.2.1 + 1 ≤ (QQ T m u r (s.1 + 1, s.2)).2.2.1 := h1.2.2 e2
        exact ⟨by show s.1 ≤ (QQ T m u r (s.1 + 1, s.2)).2.1; omega, h1.2.1, fun _ => ⟨by show s.1 + ((QQ T m u r (s.1 + 1, s.2)).2.2.1 + 1) ≤ (QQ T m u r (s.1 + 1, s.2)).2.1 + s.2.1; omega, by show s.2.1 + 1 ≤ (QQ T m u r (s.1 + 1, s.2)).2.2.1 + 1; omega⟩⟩
      · rw [if_neg e2]
        exact ⟨by omega, h1.2.1, fun g => absurd g e2⟩
    · simp only [if_neg e]
      have h1 := LVs_good (T := T) ih 5 (s.1 + 1, s.2) (by show s.1 + 1 ≤ m; omega)
      have h1a : s.1 + 1 ≤ (LVs T m (QQ T m u r) 5 (s.1 + 1, s.2)).2.1 := h1.1
      unfold brkS
      by_cases e2 : (LVs T m (QQ T m u r) 5 (s.1 + 1, s.2)).1 = true
      · rw [if_pos e2]
        have h1b : s.1 + 1 + (LVs T m (QQ T m u r) 5 (s.1 + 1, s.2)).2.2.1 ≤ (LVs T m (QQ T m u r) 5 (s.1 + 1, s.2)).2.1 + s.2.1 ∧ s.2.1 + 1 ≤ (LVs T m (QQ T m u r) 5 (s.1 + 1, s.2)).2.2.1 := h1.2.2 e2
        by_cases e3 : nx T m (LVs T m (QQ T m u r) 5 (s.1 + 1, s.2)).2.1 = 41
        · rw [if_pos e3]
          have := nx_lt (show nx T m (LVs T m (QQ T m u r) 5 (s.1 + 1, s.2)).2.1 ≠ -1 by rw [e3]; decide)
          exact ⟨by show s.1 ≤ (LVs T m (QQ T m u r) 5 (s.1 + 1, s.2)).2.1 + 1; omega, this, fun _ => ⟨by show s.1 + (LVs T m (QQ T m u r) 5 (s.1 + 1, s.2)).2.2.1 ≤ (LVs T m (QQ T m u r) 5 (s.1 + 1, s.2)).2.1 + 1 + s.2.1; omega, h1b.2⟩⟩
        · rw [if_neg e3]
          exact ⟨by show s.1 ≤ (LVs T m (QQ T m u r) 5 (s.1 + 1, s.2)).2.1; omega, h1.2.1, fun g => absurd (show (false : Bool) = true from g) (by decide)⟩
      · rw [if_neg e2]
        exact ⟨by omega, h1.2.1, fun g => absurd g e2⟩
