def nextS (q : PS → PRs) (c p k : Nat) (f : Nat → Nat) : PRs := if (q (p + 1, k, f)).1 = true then (true, (q (p + 1, k, f)).2.1, (q (p + 1, k, f)).2.2.1 + 1, adf (q (p + 1, k, f)).2.2.2 (q (p + 1, k, f)).2.2.1 (20000 + c)) else q (p + 1, k, f)
theorem lpS_next {T : Nat → Int32} {m : Nat} {q : PS → PRs} {lev c p k w : Nat} {f : Nat → Nat} (h : lvO (nx T m p) = lev) (hc : c < 125) (hx : nx T m p = nI c) : lpS T m q lev (w + 1) (true, p, k, f) = lpS T m q lev w (nextS q c p k f) := by
  unfold nextS
  by_cases e : (q (p + 1, k, f)).1 = true
  · rw [lpS_yes h e, if_pos e, hx, nI_clamp (by omega)]
  · have e2 : (q (p + 1, k, f)).1 = false := by simpa using e
    rw [lpS_yesbad h e2, if_neg e, lpS_bad e2]
theorem nextS_p {m : Nat} {q : PS → PRs} (hq : GoodQ m q) {c p k : Nat} {f : Nat → Nat} (hp : p < m) : p + 1 ≤ (nextS q c p k f).2.1 ∧ (nextS q c p k f).2.1 ≤ m := by
  have h := hq (p + 1, k, f) hp
  have h1 : p + 1 ≤ (q (p + 1, k, f)).2.1 := h.1
  unfold nextS
  by_cases e : (q (p + 1, k, f)).1 = true
  · rw [if_pos e]; exact ⟨h1, h.2.1⟩
  · rw [if_neg e]; exact ⟨h1, h.2.1⟩
def GRd (T : Nat → Int32) (u m : Nat) (q : PS → PRs) (o : Nat) (R : Mem → (Mem → Prop) → Prop) : Prop := ∀ (p k : Nat) (f : Nat → Nat) (M0 M : Mem) (K : Mem → Prop), GS T u m p k f o M0 M → (∀ M1, GR T u m o M0 (q (p, k, f)) M1 → K M1) → R M K
section GH
variable {T : Nat → Int32} {u m p k : Nat} {f : Nat → Nat} {o : Nat} {M0 M : Mem} {q : PS → PRs}
theorem g_sg {R : Mem → (Mem → Prop) → Prop} {B : Mem → Prop} {c : Nat} {x : Int32} (hR : GRd T u m q o R) (hq : GoodQ m q) (h : GS T u m p k f o M0 M) (hp : p < m) (hx : x = nI (20000 + c)) (hB : ∀ M4, GR T u m o M0 (nextS q c p k f) M4 → B M4) : R (up M 79 7 (M 79 7 + 1)) (fun M405 => wp_X8_adds x M405 (fun M406 => B M406)) := by
  refine hR _ _ _ _ _ _ (h.go hp) (fun M1 h1 => ?_)
  unfold nextS at hB
  have hkp := h.2.2.2.2.2.2.1
  rcases h1 with ⟨e, hS⟩ | ⟨e, g1, g2, g3⟩
  · rw [if_pos e] at hB
    have hg := (hq (p + 1, k, f) hp).2.2 e
    have hg1 : p + 1 + (q (p + 1, k, f)).2.2.1 ≤ (q (p + 1, k, f)).2.1 + k := hg.1
    exact g_adds hS (by omega) hx (fun M2 h2 => hB _ (Or.inl ⟨rfl, h2⟩))
  · rw [if_neg (by rw [e]; decide)] at hB
    exact y_adds0 g2 (hB _ (Or.inr ⟨e, g1, g2, g3⟩))
theorem g_sign {R : Mem → (Mem → Prop) → Prop} {B : Mem → Prop} {c : Nat} (hR : GRd T u m q o R) (hq : GoodQ m q) (h : GS T u m p k f o M0 M) (hc : isSg c) (hx : nx T m p = nI c) (hB : ∀ M4, GR T u m o M0 (nextS q c p k f) M4 → B M4) : wp_X8_byteAt (M 79 7) M (fun r M404 => R (up M404 79 7 (M404 79 7 + 1)) (fun M405 => wp_X8_adds (20000 + r) M405 (fun M406 => B M406))) := by
  have hc5 := hc.lt
  have hp : p < m := nx_lt (by rw [hx]; intro e; have := congrArg Int32.toInt e; rw [nI_toInt (by omega)] at this; have h1 : (-1 : Int32).toInt = -1 := rfl; omega)
  exact g_byte h (g_sg hR hq h hp (by rw [hx, show (20000 : Int32) = nI 20000 from rfl, nI_add]) hB)
theorem g_loop {L : Nat → Mem → Prop} {K : Mem → Prop} {lev : Nat} (hl : lev < 5) (hq : GoodQ m q) (hm : m ≤ 50) (r0 : PRs) (h0 : GR T u m o M0 r0 M) (hp0 : r0.2.1 ≤ m) (hK : ∀ M1, GR T u m o M0 (lpS T m q lev 50 r0) M1 → K M1)
    (hbad : ∀ n M', M' 79 11 = 0 → K M' → L (n + 1) M')
    (hok : ∀ n p k f M', GS T u m p k f o M0 M' → (lvO (nx T m p) ≠ lev → K M') → (∀ c, isSg c → nx T m p = nI c → lvO (nx T m p) = lev → ∀ M4, GR T u m o M0 (nextS q c p k f) M4 → L n M4) → L (n + 1) M') : ∃ n, L n M := by
  refine loopW (σ := Mem) (L := fun n s => L n s) (I := fun z s => ∃ rc : PRs, GR T u m o M0 rc s ∧ rc.2.1 ≤ m ∧ lpS T m q lev 50 rc = lpS T m q lev 50 r0 ∧ z = (if rc.1 = true then m - rc.2.1 + 1 else 0)) ?_ (k := if r0.1 = true then m - r0.2.1 + 1 else 0) (s := M) ⟨r0, h0, hp0, rfl, rfl⟩
  intro z s n hI ih
  obtain ⟨rc, hr, hpm, ht, hz⟩ := hI
  rcases hr with ⟨e, hS⟩ | ⟨e, g1, g2, g3⟩
  · obtain ⟨b0, p1, k1, f1⟩ := rc
    simp only at e hS hpm hz
    subst e
    rw [if_pos rfl] at hz
    refine hok n p1 k1 f1 s hS (fun hn => hK _ (by rw [← ht, lpS_no hn]; exact Or.inl ⟨rfl, hS⟩)) (fun c hc hx hlv M4 h4 => ?_)
    have hp1 := nx_lt (lvO_ne (x := nx T m p1) (by rw [hlv]; exact hl))
    have hnp := nextS_p hq (c := c) (k := k1) (f := f1) hp1
    refine ih (if (nextS q c p1 k1 f1).1 = true then m - (nextS q c p1 k1 f1).2.1 + 1 else 0) M4 ?_ ⟨nextS q c p1 k1 f1, h4, hnp.2, ?_, rfl⟩
    · rw [hz]; split <;> omega
    · rw [← ht, show (50 : Nat) = 49 + 1 from rfl, lpS_next (w := 49) hlv (by have := hc.lt; omega) hx]
      exact lpS_enough hl hq _ _ _ hnp.2 (by omega) (by omega)
  · exact hbad n s g2 (hK _ (by rw [← ht, lpS_bad e]; exact Or.inr ⟨e, g1, g2, g3⟩))
theorem g_b0 {Rs : Mem → (Mem → Prop) → Prop} {R1 R2 R3 R4 R5 : Mem → (Mem → Prop) → Prop} {K : Mem → Prop} {p1 : Nat} {s : Nat × (Nat → Nat)} (h : PLt M0 M) (h7 : M 79 7 = nI p1) (hk : ∀ M1, GR T u m o M0 (false, p1, s) M1 → K M1) : wp_X8_factor_b129 Rs R1 R2 R3 R4 R5 K 0 M := by
  unfold wp_X8_factor_b129
  refine ⟨Or.inl rfl, fun _ => ?_, fun g => absurd up_same g⟩
  rintro _ rfl
  refine hk _ (Or.inr ⟨rfl, ((h.up79 (by omega)).up79 (by omega)).up79 (by omega), ?_, ?_⟩)
  · rw [up_slot _ (by decide), up_slot _ (by decide), up_same]
  · rw [up_slot _ (by decide), up_same, up_slot _ (by decide), h7]
    exact Int32.add_zero _
theorem g_b1 {Rs : Mem → (Mem → Prop) → Prop} {R1 R2 R3 R4 R5 : Mem → (Mem → Prop) → Prop} {K : Mem → Prop} (h : GS T u m p k f (o + 1) M0 M) (hp : p < m) (hk : ∀ M1, GR T u m o M0 (true, p + 1, k, f) M1 → K M1) : wp_X8_factor_b129 Rs R1 R2 R3 R4 R5 K 1 M := by
  have ho := h.2.2.2.2.2.2.2.2.1
  unfold wp_X8_factor_b129
  refine ⟨Or.inr rfl, fun g => absurd (up_same.symm.trans g) (by decide), fun _ => ?_⟩
  rintro _ rfl
  have hG := (h.one (x := 1) rfl).go hp
  exact hk _ (Or.inl ⟨rfl, hG.opn (o2 := o) (by rw [hG.2.2.2.2.2.2.2.1, nI_pred]) (by omega)⟩)
theorem g_group : ∀ n : Nat,
    (∀ o : Nat, o ≤ 5 → 6 * (5 - o) + 1 ≤ n → GRd T u m (QQ T m u (5 - o)) o (wp_X8_factor n)) ∧ (∀ o : Nat, o ≤ 5 → 6 * (5 - o) + 2 ≤ n → GRd T u m (LVs T m (QQ T m u (5 - o)) 1) o (wp_X8_product n)) ∧ (∀ o : Nat, o ≤ 5 → 6 * (5 - o) + 3 ≤ n → GRd T u m (LVs T m (QQ T m u (5 - o)) 2) o (wp_X8_sum n)) ∧
    (∀ o : Nat, o ≤ 5 → 6 * (5 - o) + 4 ≤ n → GRd T u m (LVs T m (QQ T m u (5 - o)) 3) o (wp_X8_compared n)) ∧ (∀ o : Nat, o ≤ 5 → 6 * (5 - o) + 5 ≤ n → GRd T u m (LVs T m (QQ T m u (5 - o)) 4) o (wp_X8_both n)) ∧ (∀ o : Nat, o ≤ 5 → 6 * (5 - o) + 6 ≤ n → GRd T u m (LVs T m (QQ T m u (5 - o)) 5) o (wp_X8_whole n)) := by
  intro n
  induction n with
  | zero => refine ⟨?_, ?_, ?_, ?_, ?_, ?_⟩ <;> (intro o ho hn; omega)
  | succ n ih =>
    obtain ⟨ihF, ihP, ihS, ihC, ihB, ihW⟩ := ih
    refine ⟨?_, ?_, ?_, ?_, ?_, ?_⟩
    · intro o ho hn p k f M0 M K h hk
      show wpb_X8_factor (wpG_X8_factor n).1 (wpG_X8_factor n).2.1 (wpG_X8_factor n).2.2.1 (wpG_X8_factor n).2.2.2.1 (wpG_X8_factor n).2.2.2.2.1 (wpG_X8_factor n).2.2.2.2.2 M K
      unfold wpb_X8_factor
      have hkp := h.2.2.2.2.2.2.1
      have h9 := h.2.2.2.2.2.2.2.1
      obtain ⟨opn, ho1, ho2, ho3⟩ : ∃ opn : Int32 → PRs, QQ T m u (5 - o) (p, k, f) = leafS T m u opn (p, k, f) ∧ (o = 5 → opn = fun _ => (false, p, k, f)) ∧ (o < 5 → opn = fun x => if x = 33 then notS (QQ T m u (5 - (o + 1)) (p + 1, k, f)) else brkS T m (LVs T m (QQ T m u (5 - (o + 1))) 5 (p + 1, k, f))) := by
        rcases Nat.lt_or_ge o 5 with c | c
        · obtain ⟨r, hr⟩ : ∃ r, 5 - o = r + 1 := ⟨4 - o, by omega⟩
          have : 5 - (o + 1) = r := by omega
          rw [hr, this]
          exact ⟨_, rfl, fun e => by omega, fun _ => rfl⟩
        · have : o = 5 := by omega
          subst this
          exact ⟨_, rfl, fun _ => rfl, fun e => by omega⟩
      rw [ho1] at hk
      unfold leafS at hk
      simp only at hk
      have hopen : (nx T m p = 33 ∨ nx T m p = 40) → (∀ M1, GR T u m o M0 (opn (nx T m p)) M1 → K M1) → wp_X8_factor_b43 (wpG_X8_factor n).1 (wpG_X8_factor n).2.1 (wpG_X8_factor n).2.2.1 (wpG_X8_factor n).2.2.2.1 (wpG_X8_factor n).2.2.2.2.1 (wpG_X8_factor n).2.2.2.2.2 K (nx T m p) M := by
        intro e3 hk
        have hp := nx_lt (show nx T m p ≠ -1 by rcases e3 with q | q <;> rw [q] <;> decide)
        unfold wp_X8_factor_b43
        rw [h9]
        refine ⟨fun g => ?_, fun g => ?_⟩
        · have ho5 : o < 5 := by
            rcases Nat.lt_or_ge o 5 with c | c
            · exact c
            · have : o = 5 := by omega
              subst this; exact absurd rfl g
          have hS := (h.opn (o2 := o + 1) (x := nI o + 1) (nI_1 o) (by omega)).go hp
          rw [ho3 ho5] at hk
          refine ⟨fun g2 => ?_, fun g2 => ?_⟩
          · simp only [if_neg g2] at hk
            unfold brkS at hk
            refine ihW (o + 1) (by omega) (by omega) _ _ _ _ _ _ hS (fun M1 h1 => ?_)
            rcases h1 with ⟨e, hS1⟩ | ⟨e, g1, g4, g5⟩
            · rw [if_pos e] at hk
              refine ⟨fun g3 => absurd (hS1.2.2.2.2.2.2.2.2.2.1.symm.trans g3) (by decide), fun _ => g_byte hS1 ⟨fun g3 => ?_, fun g3 => ?_⟩⟩
              · rw [if_neg g3] at hk
                exact g_b0 hS1.1 hS1.2.2.2.1 hk
              · rw [if_pos g3] at hk
                exact g_b1 hS1 (nx_lt (by rw [g3]; decide)) hk
            · rw [if_neg (by rw [e]; decide)] at hk
              refine ⟨fun _ => ?_, fun g3 => absurd g4 g3⟩
              refine g_b0 (T := T) (u := u) (m := m) (o := o) (s := (0, fun _ => 0)) g1 g5 (fun M2 h2 => hk _ ?_)
              rcases h2 with ⟨e2, -⟩ | ⟨-, x1, x2, x3⟩
              · exact absurd (show (false : Bool) = true from e2) (by decide)
              · exact Or.inr ⟨e, x1, x2, x3⟩
          · simp only [if_pos g2] at hk
            unfold notS at hk
            refine ihF (o + 1) (by omega) (by omega) _ _ _ _ _ _ hS (fun M1 h1 => ?_)
            rcases h1 with ⟨e, hS1⟩ | ⟨e, g1, g4, g5⟩
            · rw [if_pos e] at hk
              have hg := (QQ_good (T := T) (u := u) (5 - (o + 1)) (p + 1, k, f) hp).2.2 e
              have hg1 : p + 1 + (QQ T m u (5 - (o + 1)) (p + 1, k, f)).2.2.1 ≤ (QQ T m u (5 - (o + 1)) (p + 1, k, f)).2.1 + k := hg.1
              refine g_adds (v := 20033) hS1 (by omega) rfl (fun M2 h2 => hk _ (Or.inl ⟨rfl, h2.opn (o2 := o) (by rw [h2.2.2.2.2.2.2.2.1, nI_pred]) (by omega)⟩))
            · rw [if_neg (by rw [e]; decide)] at hk
              refine y_adds0 g4 (hk _ (Or.inr ⟨e, g1.up79 (by omega), by rw [up_slot _ (by decide)]; exact g4, by rw [up_slot _ (by decide)]; exact g5⟩))
        · have : o = 5 := (nI_eq (a := o) (b := 5) (by omega) (by omega)).mp g
          rw [ho2 this] at hk
          exact hk _ (h.bad rfl)
      refine g_byte h (g_digit (fun e => b1a ?_) (fun e => b0a ?_))
      · rw [if_pos e] at hk
        exact g_number h e hk
      · rw [if_neg e] at hk
        have nm33 : ∀ x : Int32, (x = 33 ∨ x = 40) → ¬ nmO u x < 3 := by
          intro x hx
          rcases hx with rfl | rfl
          · unfold nmO; rw [if_neg (by decide), if_neg (by decide), if_neg (by split <;> decide)]; decide
          · unfold nmO; rw [if_neg (by decide), if_neg (by decide), if_neg (by split <;> decide)]; decide
        have hop2 : (nx T m p = 33 ∨ nx T m p = 40) → wp_X8_factor_b43 (wpG_X8_factor n).1 (wpG_X8_factor n).2.1 (wpG_X8_factor n).2.2.1 (wpG_X8_factor n).2.2.2.1 (wpG_X8_factor n).2.2.2.2.1 (wpG_X8_factor n).2.2.2.2.2 K (nx T m p) M := by
          intro hx
          rw [if_neg (nm33 _ hx), if_pos hx] at hk
          exact hopen hx hk
        refine ⟨fun g => hop2 (Or.inl g), fun g => ⟨fun g2 => hop2 (Or.inr g2), fun g2 => ?_⟩⟩
        refine g_named h (fun e1 M1 h1 => ?_) (fun e1 M1 h1 => ?_)
        · rw [if_pos e1] at hk; exact hk _ h1
        · rw [if_neg e1, if_neg (fun e3 => e3.elim g g2)] at hk; exact hk _ h1
    · intro o ho hn p k f M0 M K h hk
      show wpb_X8_product (wpG_X8_factor n).1 (wpG_X8_factor n).2.1 (wpG_X8_factor n).2.2.1 (wpG_X8_factor n).2.2.2.1 (wpG_X8_factor n).2.2.2.2.1 (wpG_X8_factor n).2.2.2.2.2 M K
      unfold wpb_X8_product
      have hq : GoodQ m (QQ T m u (5 - o)) := QQ_good _
      have hR := ihF o ho (by omega)
      refine hR _ _ _ _ _ _ h (fun M1 h1 => g_loop (q := QQ T m u (5 - o)) (lev := 4) (by omega) hq h.2.2.1 _ h1 (hq (p, k, f) h.2.2.2.2.1).2.1 hk (fun z M' hz hK' => ⟨fun _ => hK', fun g => absurd hz g⟩) (fun z p1 k1 f1 M' hS hno hyes => ?_))
      refine ⟨fun g => absurd (hS.2.2.2.2.2.2.2.2.2.1.symm.trans g) (by decide), fun _ => g_byte hS ⟨fun g1 => ?_, fun g1 => g_byte hS ⟨fun g2 => ?_, fun g2 => g_byte hS ⟨fun g3 => hno (fun e => ?_), fun g3 => ?_⟩⟩⟩⟩
      · exact g_sign hR hq hS (c := 42) (by unfold isSg; omega) g1 (hyes 42 (by unfold isSg; omega) g1 (by rw [g1]; rfl))
      · exact g_sign hR hq hS (c := 47) (by unfold isSg; omega) g2 (hyes 47 (by unfold isSg; omega) g2 (by rw [g2]; rfl))
      · obtain ⟨c, hc, ec⟩ := lv_sg (x := nx T m p1) (by omega)
        rw [ec] at e g1 g2 g3
        rcases hc with rfl | rfl | rfl | rfl | rfl | rfl | rfl | rfl | rfl | rfl <;> first | exact absurd e (by decide) | exact g1 rfl | exact g2 rfl | exact g3 rfl
      · exact g_sign hR hq hS (c := 37) (by unfold isSg; omega) g3 (hyes 37 (by unfold isSg; omega) g3 (by rw [g3]; rfl))
    · intro o ho hn p k f M0 M K h hk
      show wpb_X8_sum (wpG_X8_factor n).1 (wpG_X8_factor n).2.1 (wpG_X8_factor n).2.2.1 (wpG_X8_factor n).2.2.2.1 (wpG_X8_factor n).2.2.2.2.1 (wpG_X8_factor n).2.2.2.2.2 M K
      unfold wpb_X8_sum
      have hq : GoodQ m (LVs T m (QQ T m u (5 - o)) 1) := LVs_good (QQ_good _) 1
      have hR := ihP o ho (by omega)
      refine hR _ _ _ _ _ _ h (fun M1 h1 => g_loop (q := LVs T m (QQ T m u (5 - o)) 1) (lev := 3) (by omega) hq h.2.2.1 _ h1 (hq (p, k, f) h.2.2.2.2.1).2.1 hk (fun z M' hz hK' => ⟨fun _ => hK', fun g => absurd hz g⟩) (fun z p1 k1 f1 M' hS hno hyes => ?_))
      refine ⟨fun g => absurd (hS.2.2.2.2.2.2.2.2.2.1.symm.trans g) (by decide), fun _ => g_byte hS ⟨fun g1 => ?_, fun g1 => g_byte hS ⟨fun g3 => hno (fun e => ?_), fun g3 => ?_⟩⟩⟩
      · exact g_sign hR hq hS (c := 43) (by unfold isSg; omega) g1 (hyes 43 (by unfold isSg; omega) g1 (by rw [g1]; rfl))
      · obtain ⟨c, hc, ec⟩ := lv_sg (x := nx T m p1) (by omega)
        rw [ec] at e g1 g3
        rcases hc with rfl | rfl | rfl | rfl | rfl | rfl | rfl | rfl | rfl | rfl <;> first | exact absurd e (by decide) | exact g1 rfl | exact g3 rfl
      · exact g_sign hR hq hS (c := 45) (by unfold isSg; omega) g3 (hyes 45 (by unfold isSg; omega) g3 (by rw [g3]; rfl))
    · intro o ho hn p k f M0 M K h hk
      show wpb_X8_compared (wpG_X8_factor n).1 (wpG_X8_factor n).2.1 (wpG_X8_factor n).2.2.1 (wpG_X8_factor n).2.2.2.1 (wpG_X8_factor n).2.2.2.2.1 (wpG_X8_factor n).2.2.2.2.2 M K
      unfold wpb_X8_compared
      have hq : GoodQ m (LVs T m (QQ T m u (5 - o)) 2) := LVs_good (QQ_good _) 2
      have hR := ihS o ho (by omega)
      have hk2 : ∀ M1, GR T u m o M0 (lpS T m (LVs T m (QQ T m u (5 - o)) 2) 2 1 (LVs T m (QQ T m u (5 - o)) 2 (p, k, f))) M1 → K M1 := hk
      refine hR _ _ _ _ _ _ h (fun M1 h1 => ?_)
      unfold wp_X8_compared_b23
      rcases h1 with ⟨e, hS⟩ | ⟨e, g1, g4, g5⟩
      · generalize hrc : LVs T m (QQ T m u (5 - o)) 2 (p, k, f) = rc at e hS hk2
        obtain ⟨b0, p1, k1, f1⟩ := rc
        simp only at e hS
        subst e
        have one : ∀ c, isSg c → nx T m p1 = nI c → lvO (nx T m p1) = 2 → ∀ M4, GR T u m o M0 (nextS (LVs T m (QQ T m u (5 - o)) 2) c p1 k1 f1) M4 → K M4 := by
          intro c hc hx hlv M4 h4
          refine hk2 _ ?_
          rw [show (1 : Nat) = 0 + 1 from rfl, lpS_next (w := 0) hlv (by have := hc.lt; omega) hx]
          exact h4
        refine ⟨fun g => absurd (hS.2.2.2.2.2.2.2.2.2.1.symm.trans g) (by decide), fun _ => g_byte hS ⟨fun g1 => ?_, fun g1 => ⟨fun g2 => ?_, fun g2 => ⟨fun g3 => ?_, fun g3 => ?_⟩⟩⟩⟩
        · exact g_sg hR hq hS (nx_lt (by rw [g1]; decide)) (c := 60) (by rw [g1]; rfl) (one 60 (by unfold isSg; omega) g1 (by rw [g1]; rfl))
        · exact g_sg hR hq hS (nx_lt (by rw [g2]; decide)) (c := 61) (by rw [g2]; rfl) (one 61 (by unfold isSg; omega) g2 (by rw [g2]; rfl))
        · refine hk2 _ ?_
          rw [lpS_no]
          · exact Or.inl ⟨rfl, hS⟩
          · intro e
            have e : lvO (nx T m p1) = 2 := e
            obtain ⟨c, hc, ec⟩ := lv_sg (x := nx T m p1) (by omega)
            rw [ec] at e g1 g2 g3
            rcases hc with rfl | rfl | rfl | rfl | rfl | rfl | rfl | rfl | rfl | rfl <;> first | exact absurd e (by decide) | exact g1 rfl | exact g2 rfl | exact g3 rfl
        · exact g_sg hR hq hS (nx_lt (by rw [g3]; decide)) (c := 62) (by rw [g3]; rfl) (one 62 (by unfold isSg; omega) g3 (by rw [g3]; rfl))
      · have hK : K M1 := hk2 _ (by rw [lpS_bad e]; exact Or.inr ⟨e, g1, g4, g5⟩)
        exact ⟨fun _ => ⟨fun g => absurd g (by decide), fun _ => ⟨fun g => absurd g (by decide), fun _ => ⟨fun _ => hK, fun g => absurd g (by decide)⟩⟩⟩, fun g => absurd g4 g⟩
    · intro o ho hn p k f M0 M K h hk
      show wpb_X8_both (wpG_X8_factor n).1 (wpG_X8_factor n).2.1 (wpG_X8_factor n).2.2.1 (wpG_X8_factor n).2.2.2.1 (wpG_X8_factor n).2.2.2.2.1 (wpG_X8_factor n).2.2.2.2.2 M K
      unfold wpb_X8_both
      have hq : GoodQ m (LVs T m (QQ T m u (5 - o)) 3) := LVs_good (QQ_good _) 3
      have hR := ihC o ho (by omega)
      refine hR _ _ _ _ _ _ h (fun M1 h1 => g_loop (q := LVs T m (QQ T m u (5 - o)) 3) (lev := 1) (by omega) hq h.2.2.1 _ h1 (hq (p, k, f) h.2.2.2.2.1).2.1 hk (fun z M' hz hK' => ⟨fun _ => hK', fun g => absurd hz g⟩) (fun z p1 k1 f1 M' hS hno hyes => ?_))
      refine ⟨fun g => absurd (hS.2.2.2.2.2.2.2.2.2.1.symm.trans g) (by decide), fun _ => g_byte hS ⟨fun g3 => hno (fun e => ?_), fun g3 => ?_⟩⟩
      · obtain ⟨c, hc, ec⟩ := lv_sg (x := nx T m p1) (by omega)
        rw [ec] at e g3
        rcases hc with rfl | rfl | rfl | rfl | rfl | rfl | rfl | rfl | rfl | rfl <;> first | exact absurd e (by decide) | exact g3 rfl
      · exact g_sg hR hq hS (nx_lt (by rw [g3]; decide)) (c := 38) rfl (hyes 38 (by unfold isSg; omega) g3 (by rw [g3]; rfl))
    · intro o ho hn p k f M0 M K h hk
      show wpb_X8_whole (wpG_X8_factor n).1 (wpG_X8_factor n).2.1 (wpG_X8_factor n).2.2.1 (wpG_X8_factor n).2.2.2.1 (wpG_X8_factor n).2.2.2.2.1 (wpG_X8_factor n).2.2.2.2.2 M K
      unfold wpb_X8_whole
      have hq : GoodQ m (LVs T m (QQ T m u (5 - o)) 4) := LVs_good (QQ_good _) 4
      have hR := ihB o ho (by omega)
      refine hR _ _ _ _ _ _ h (fun M1 h1 => g_loop (q := LVs T m (QQ T m u (5 - o)) 4) (lev := 0) (by omega) hq h.2.2.1 _ h1 (hq (p, k, f) h.2.2.2.2.1).2.1 hk (fun z M' hz hK' => ⟨fun _ => hK', fun g => absurd hz g⟩) (fun z p1 k1 f1 M' hS hno hyes => ?_))
      refine ⟨fun g => absurd (hS.2.2.2.2.2.2.2.2.2.1.symm.trans g) (by decide), fun _ => g_byte hS ⟨fun g3 => hno (fun e => ?_), fun g3 => ?_⟩⟩
      · obtain ⟨c, hc, ec⟩ := lv_sg (x := nx T m p1) (by omega)
        rw [ec] at e g3
        rcases hc with rfl | rfl | rfl | rfl | rfl | rfl | rfl | rfl | rfl | rfl <;> first | exact absurd e (by decide) | exact g3 rfl
      · exact g_sg hR hq hS (nx_lt (by rw [g3]; decide)) (c := 124) rfl (hyes 124 (by unfold isSg; omega) g3 (by rw [g3]; rfl))
end GH
