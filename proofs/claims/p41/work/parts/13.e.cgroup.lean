theorem lpS_bad {T : Nat → Int32} {m : Nat} {q : PS → PRs} {lev : Nat} {r : PRs} (h : r.1 = false) : ∀ w, lpS T m q lev w r = r := by
  intro w
  cases w with
  | zero => rfl
  | succ w =>
    show (if r.1 = true ∧ lvO (nx T m r.2.1) = lev then _ else r) = r
    rw [if_neg (by rw [h]; simp)]
theorem lpS_no {T : Nat → Int32} {m : Nat} {q : PS → PRs} {lev : Nat} {r : PRs} (h : lvO (nx T m r.2.1) ≠ lev) : ∀ w, lpS T m q lev w r = r := by
  intro w
  cases w with
  | zero => rfl
  | succ w =>
    show (if r.1 = true ∧ lvO (nx T m r.2.1) = lev then _ else r) = r
    rw [if_neg (fun q => h q.2)]
theorem lpS_yes {T : Nat → Int32} {m : Nat} {q : PS → PRs} {lev p k w : Nat} {f : Nat → Nat} (h : lvO (nx T m p) = lev) (h2 : (q (p + 1, k, f)).1 = true) : lpS T m q lev (w + 1) (true, p, k, f) = lpS T m q lev w (true, (q (p + 1, k, f)).2.1, (q (p + 1, k, f)).2.2.1 + 1, adf (q (p + 1, k, f)).2.2.2 (q (p + 1, k, f)).2.2.1 (20000 + (nx T m p).toNatClampNeg)) := by
  show (if true = true ∧ lvO (nx T m p) = lev then (if (q (p + 1, k, f)).1 = true then _ else _) else _) = _
  rw [if_pos ⟨rfl, h⟩, if_pos h2]
theorem lpS_yesbad {T : Nat → Int32} {m : Nat} {q : PS → PRs} {lev p k w : Nat} {f : Nat → Nat} (h : lvO (nx T m p) = lev) (h2 : (q (p + 1, k, f)).1 = false) : lpS T m q lev (w + 1) (true, p, k, f) = q (p + 1, k, f) := by
  show (if true = true ∧ lvO (nx T m p) = lev then (if (q (p + 1, k, f)).1 = true then _ else _) else _) = _
  rw [if_pos ⟨rfl, h⟩, if_neg (by rw [h2]; decide)]
theorem lv_sg {x : Int32} (h : lvO x < 5) : ∃ c : Nat, isSg c ∧ x = nI c := by
  unfold lvO at h
  by_cases e1 : x = 37
  · exact ⟨37, by unfold isSg; omega, e1⟩
  rw [if_neg e1] at h
  by_cases e2 : x = 38
  · exact ⟨38, by unfold isSg; omega, e2⟩
  rw [if_neg e2] at h
  by_cases e3 : x = 42
  · exact ⟨42, by unfold isSg; omega, e3⟩
  rw [if_neg e3] at h
  by_cases e4 : x = 43
  · exact ⟨43, by unfold isSg; omega, e4⟩
  rw [if_neg e4] at h
  by_cases e5 : x = 45
  · exact ⟨45, by unfold isSg; omega, e5⟩
  rw [if_neg e5] at h
  by_cases e6 : x = 47
  · exact ⟨47, by unfold isSg; omega, e6⟩
  rw [if_neg e6] at h
  by_cases e7 : x = 60
  · exact ⟨60, by unfold isSg; omega, e7⟩
  rw [if_neg e7] at h
  by_cases e8 : x = 61
  · exact ⟨61, by unfold isSg; omega, e8⟩
  rw [if_neg e8] at h
  by_cases e9 : x = 62
  · exact ⟨62, by unfold isSg; omega, e9⟩
  rw [if_neg e9] at h
  by_cases e10 : x = 124
  · exact ⟨124, by unfold isSg; omega, e10⟩
  rw [if_neg e10] at h
  omega
section CG
variable {T : Nat → Int32} {u m p k : Nat} {f g : Nat → Nat} {σ : Nat → Nat → Nat} {d : Nat} {M0 M : Mem}
theorem cq_of {d0 : Nat} {τ σ0 : Nat → Nat} {M1 : Mem} {f1 g1 : Nat → Nat} {σ2 : Nat → Nat → Nat} (ht : ∀ e, e < d0 → σ0 e = τ e) (h : CS T u m p (k + 1) f1 g1 (fun j => if j = k + 1 then upn σ0 d0 k else σ2 j) (d0 + 1) M0 M1) : CQ T u m d0 τ M0 (true, p, k + 1, f1) (nI k) M1 := by
  refine Or.inl ⟨rfl, _, _, h, fun e he => ?_, ?_⟩
  · show (if k + 1 = k + 1 then upn σ0 d0 k else σ2 (k + 1)) e = τ e
    rw [if_pos rfl, upn_o (by omega)]; exact ht e he
  · show nI k = nI ((if k + 1 = k + 1 then upn σ0 d0 k else σ2 (k + 1)) d0)
    rw [if_pos rfl, upn_s]
theorem c_number {K : Int32 → Mem → Prop} (h : CS T u m p k f g σ d M0 M) (hd : isD (nx T m p) = true) (hk : ∀ r M1, CQ T u m d (σ k) M0 (true, (numS T m 4 0 p).2, k + 1, adf f k (numS T m 4 0 p).1) r M1 → K r M1) : wp_X2_readNumber M K := by
  unfold wp_X2_readNumber
  refine loopNA (L := fun n a i M' => wp_X2_readNumber_L4 K n a i M') 4 (fun i a M' => CS T u m (p + i) k f g σ d M0 M' ∧ ∃ w : Nat, a = nI w ∧ w < 10 ^ i ∧ numS T m (4 - i) w (p + i) = numS T m 4 0 p) ?_ 0 (Nat.zero_le _) ⟨h, 0, rfl, by decide, rfl⟩
  intro i a M' n hi hs ih
  obtain ⟨hs, w, rfl, hw, hn⟩ := hs
  have hw4 : w < 10000 := by
    have : 10 ^ i ≤ 10 ^ 4 := Nat.pow_le_pow_right (by omega) hi
    omega
  show wp_X2_readNumber_l4 K (wp_X2_readNumber_L4 K n) (nI w) (nI i) M'
  unfold wp_X2_readNumber_l4
  have fin : 1 ≤ i → numS T m (4 - i) w (p + i) = (w, p + i) → wp_X4_add 61 48 (nI w) 0 M' (fun r M1 => K r M1) := fun h1 h2 => by
    have hkp := h.2.2.2.1
    refine c_add (v := w) (d1 := d + 1) (σ1 := upn (σ k) d k) hs (by omega) (Or.inl ⟨w, hw4, rfl, rfl, rfl, rfl, rfl⟩) (fun M1 hM => hk _ _ ?_)
    have e : numS T m 4 0 p = (w, p + i) := hn.symm.trans h2
    rw [e]
    exact cq_of (fun _ _ => rfl) hM
  refine ⟨fun q => ?_, fun q => ?_⟩
  · have h4 := le_of_nI (a := 4) q (by omega) (by omega)
    have : i = 4 := by omega
    subst this
    exact fin (by omega) rfl
  · have hi4 : i < 4 := lt_of_nI (a := 4) q (by omega) (by omega)
    obtain ⟨j, hj⟩ : ∃ j, 4 - i = j + 1 := ⟨3 - i, by omega⟩
    refine c_next hs (x_digit (fun g1 => b1a ?_) (fun g1 => b0a ?_))
    · refine c_next hs ?_
      have hp := nx_lt (isD_ne g1)
      have g2 := g1
      simp only [isD, Bool.and_eq_true, decide_eq_true_eq] at g2
      obtain ⟨c, hc, ec⟩ := nat_of (x := nx T m (p + i)) 57 (by omega) g2.2 (by decide)
      have hc48 : 48 ≤ c := by
        have := g2.1
        rw [ec, nI_toInt (by omega)] at this
        omega
      have ev : (10 : Int32) * nI w + nI c - 48 = nI (10 * w + (c - 48)) := by
        rw [show (10 : Int32) = nI 10 from rfl, show (48 : Int32) = nI 48 from rfl, pk_mul, nI_add, pk_sub (by omega)]
        congr 1; omega
      have hn2 : numS T m (4 - (i + 1)) (10 * w + (c - 48)) (p + (i + 1)) = numS T m 4 0 p := by
        rw [← hn, hj]
        show _ = (if isD (nx T m (p + i)) = true then numS T m j (10 * w + ((nx T m (p + i)).toNatClampNeg - 48)) (p + i + 1) else (w, p + i))
        rw [if_pos g1, ec, nI_clamp (by omega), show 4 - (i + 1) = j by omega]
        rfl
      rw [ec, ev, nI_1]
      refine ih _ _ hi4 ⟨by have := hs.go hp; rwa [Nat.add_assoc] at this, _, rfl, ?_, hn2⟩
      rw [Nat.pow_succ]; omega
    · refine fin ?_ ?_
      · rcases Nat.eq_zero_or_pos i with e | e
        · subst e; exact absurd hd g1
        · exact e
      · rw [hj]
        show (if isD (nx T m (p + i)) = true then _ else (w, p + i)) = _
        rw [if_neg g1]
theorem CQ.bad {res : PRs} {τ : Nat → Nat} {r : Int32} {M1 : Mem} (h : res.1 = false) (h1 : CF m res.2.1 M0 M1) : CQ T u m d τ M0 res r M1 := Or.inr ⟨h, h1⟩
theorem c_group : ∀ n : Nat,
    (∀ (l o : Nat) {p k : Nat} {f g : Nat → Nat} {σ : Nat → Nat → Nat} {d : Nat} {M0 M : Mem} {K : Int32 → Mem → Prop}, l ≤ 5 → o ≤ 5 → (5 - l) + 2 + 8 * (5 - o) ≤ n → CS T u m p k f g σ d M0 M → (∀ r M1, CQ T u m d (σ k) M0 (LVs T m (QQ T m u (5 - o)) (5 - l) (p, k, f)) r M1 → K r M1) → wp_X2_readLevel n (nI l) (nI o) M K) ∧
    (∀ (o : Nat) {p k : Nat} {f g : Nat → Nat} {σ : Nat → Nat → Nat} {d : Nat} {M0 M : Mem} {K : Int32 → Mem → Prop}, o ≤ 5 → 8 * (5 - o) + 1 ≤ n → CS T u m p k f g σ d M0 M → (∀ r M1, CQ T u m d (σ k) M0 (QQ T m u (5 - o) (p, k, f)) r M1 → K r M1) → wp_X2_readInnermost n (nI o) M K) ∧
    (∀ (o : Nat) {p k : Nat} {f g : Nat → Nat} {σ : Nat → Nat → Nat} {d : Nat} {M0 M : Mem} {K : Int32 → Mem → Prop}, o ≤ 5 → 8 * (5 - o) + 2 ≤ n → k + 1 ≤ p → CS T u m p k f g σ d M0 M → (∀ r M1, CQ T u m d (σ k) M0 (notS (QQ T m u (5 - o) (p, k, f))) r M1 → K r M1) → wp_X2_readNot n (nI o) M K) ∧
    (∀ (o : Nat) {p k : Nat} {f g : Nat → Nat} {σ : Nat → Nat → Nat} {d : Nat} {M0 M : Mem} {K : Int32 → Mem → Prop}, o ≤ 5 → 8 * (5 - o) + 8 ≤ n → CS T u m p k f g σ d M0 M → (∀ r M1, CQ T u m d (σ k) M0 (brkS T m (LVs T m (QQ T m u (5 - o)) 5 (p, k, f))) r M1 → K r M1) → wp_X2_readBrackets n (nI o) M K) := by
  intro n
  induction n with
  | zero => refine ⟨?_, ?_, ?_, ?_⟩ <;> (intros; omega)
  | succ n ih =>
    obtain ⟨ihL, ihI, ihN, ihB⟩ := ih
    refine ⟨?_, ?_, ?_, ?_⟩
    · intro l o p k f g σ d M0 M K hl ho hn h hk
      show wpb_X2_readLevel (wpG_X2_readLevel n).1 (wpG_X2_readLevel n).2.1 (wpG_X2_readLevel n).2.2.1 (wpG_X2_readLevel n).2.2.2 (nI l) (nI o) M K
      unfold wpb_X2_readLevel
      refine ⟨fun q => ?_, fun q => ?_⟩
      · have hl5 : l < 5 := by
          rcases Nat.lt_or_ge l 5 with g | g
          · exact g
          · exact absurd q (nI_nlt (a := l) (b := 5) g (by omega))
        obtain ⟨j, hj⟩ : ∃ j, 5 - l = j + 1 := ⟨4 - l, by omega⟩
        have hjl : 5 - (l + 1) = j := by omega
        have h4j : 4 - j = l := by omega
        rw [hj] at hk
        have hk2 : ∀ r M1, CQ T u m d (σ k) M0 (lpS T m (LVs T m (QQ T m u (5 - o)) j) l (if l = 2 then 1 else 50) (LVs T m (QQ T m u (5 - o)) j (p, k, f))) r M1 → K r M1 := by
          intro r M1 hq
          refine hk r M1 ?_
          show CQ T u m d (σ k) M0 (lpS T m (LVs T m (QQ T m u (5 - o)) j) (4 - j) (if 4 - j = 2 then 1 else 50) (LVs T m (QQ T m u (5 - o)) j (p, k, f))) r M1
          rw [h4j]; exact hq
        rw [nI_1]
        refine ihL (l + 1) o (by omega) ho (by omega) h (fun r M1 hr => ?_)
        rw [hjl] at hr
        have hgq : GoodQ m (LVs T m (QQ T m u (5 - o)) j) := LVs_good (QQ_good _) j
        have hloop : ∀ w : Nat, w ≤ 50 → w = (if l = 2 then 1 else 50) → ∃ n_1, wp_X2_readLevel_L36 (wpG_X2_readLevel n).1 (wpG_X2_readLevel n).2.1 (wpG_X2_readLevel n).2.2.1 (wpG_X2_readLevel n).2.2.2 K (nI l) (nI o) (nI w) n_1 r 0 M1 := by
          intro w hw ew
          rw [← ew] at hk2
          refine loopNA (L := fun z a i M' => wp_X2_readLevel_L36 (wpG_X2_readLevel n).1 (wpG_X2_readLevel n).2.1 (wpG_X2_readLevel n).2.2.1 (wpG_X2_readLevel n).2.2.2 K (nI l) (nI o) (nI w) z a i M') w (fun i a M' => ∃ rc : PRs, CQ T u m d (σ k) M0 rc a M' ∧ lpS T m (LVs T m (QQ T m u (5 - o)) j) l (w - i) rc = lpS T m (LVs T m (QQ T m u (5 - o)) j) l w (LVs T m (QQ T m u (5 - o)) j (p, k, f))) ?_ 0 (Nat.zero_le _) ⟨_, hr, rfl⟩
          intro i a M' z hi hs ih2
          obtain ⟨rc, hc, he⟩ := hs
          show wp_X2_readLevel_l36 (wpG_X2_readLevel n).1 (wpG_X2_readLevel n).2.1 (wpG_X2_readLevel n).2.2.1 (wpG_X2_readLevel n).2.2.2 K (nI l) (nI o) (nI w) _ a (nI i) M'
          unfold wp_X2_readLevel_l36
          have out : lpS T m (LVs T m (QQ T m u (5 - o)) j) l (w - i) rc = rc → K a M' := fun e => hk2 _ _ (by rw [← he, e]; exact hc)
          refine ⟨fun q1 => out ?_, fun q1 => ⟨fun q2 => ?_, fun q2 => ?_⟩⟩
          · have := le_of_nI q1 (by omega) (by omega)
            rw [show w - i = 0 by omega]; rfl
          · rcases hc with ⟨e1, g1, σ1, hS, -⟩ | ⟨e1, hF⟩
            · rw [hS.2.2.2.2.2.2.1] at q2; exact absurd q2 (by decide)
            · exact out (lpS_bad e1 _)
          · have hi2 : i < w := lt_of_nI q1 (by omega) (by omega)
            rcases hc with ⟨e1, g1, σ1, hS, hτ, ha⟩ | ⟨e1, hF⟩
            · obtain ⟨b0, p1, k1, f1⟩ := rc
              simp only at e1 hS hτ ha
              subst e1
              obtain ⟨w1, hw1⟩ : ∃ w1, w - i = w1 + 1 := ⟨w - i - 1, by omega⟩
              have hw2 : w - (i + 1) = w1 := by omega
              refine c_next hS (x_level (fun hx => ⟨fun q3 => out (lpS_no (fun e => q3 (by rw [e])) _), fun q3 => ?_⟩) (fun hx => ⟨fun q3 => out (lpS_no (fun e => hx (by rw [show lvO (nx T m p1) = l from e]; exact hl5)) _), fun q3 => ?_⟩))
              · have hlv : lvO (nx T m p1) = l := (nI_eq (by omega) (by omega)).mp q3
                have hp1 := nx_lt (lvO_ne hx)
                obtain ⟨c, hc, ec⟩ := lv_sg hx
                have hc5 := hc.lt
                rw [nI_1, nI_1]
                refine c_next hS (ihL (l + 1) o (by omega) ho (by omega) (hS.go hp1) (fun r4 M4 h4 => ?_))
                rw [hjl] at h4
                rcases h4 with ⟨e4, g4, σ4, hS4, hτ4, hr4⟩ | ⟨e4, hF4⟩
                · have hgood := (hgq (p1 + 1, k1, f1) hp1).2.2 e4
                  have hg1 : p1 + 1 + (LVs T m (QQ T m u (5 - o)) j (p1 + 1, k1, f1)).2.2.1 ≤ (LVs T m (QQ T m u (5 - o)) j (p1 + 1, k1, f1)).2.1 + k1 := hgood.1
                  have hk1p := hS.2.2.2.1
                  refine c_add (v := 20000 + c) (d1 := d + 1) (σ1 := upn (σ4 (LVs T m (QQ T m u (5 - o)) j (p1 + 1, k1, f1)).2.2.1) d (LVs T m (QQ T m u (5 - o)) j (p1 + 1, k1, f1)).2.2.1) hS4 (by omega) (Or.inr (Or.inr (Or.inr ⟨c, d, hc, rfl, ec, rfl, ?_, ?_, rfl, rfl⟩))) (fun M5 h5 => ?_)
                  · rw [ha, hτ4 d (by omega)]
                  · rw [hr4]
                  · refine ih2 _ _ hi2 ⟨_, cq_of (τ := σ k) (fun e he1 => (hτ4 e (by omega)).trans (hτ e he1)) h5, ?_⟩
                    rw [← he, hw1, hw2, lpS_yes hlv e4, ec, nI_clamp (by omega)]
                · refine f_add hF4 (fun x5 M5 h5 => ih2 _ _ hi2 ⟨_, Or.inr ⟨e4, h5⟩, ?_⟩)
                  rw [← he, hw1, hw2, lpS_yesbad hlv e4]
                  exact lpS_bad e4 _
              · exact absurd (show (nI l).toInt = -1 by rw [← q3]; rfl) (by rw [nI_toInt (by omega)]; omega)
            · have h6 := hF.2.2.2.2.2.1
              rw [h6] at q2
              exact absurd (nI_le (a := 0) (b := rc.2.1) (by omega) (by have := hF.2.1; have := hF.2.2.1; omega)) q2
        exact ⟨fun e => hloop 50 (by omega) (by rw [if_neg (fun e2 => e (by rw [e2]; rfl))]), fun e => hloop 1 (by omega) (by rw [if_pos ((nI_eq (a := l) (b := 2) (by omega) (by omega)).mp e)])⟩
      · have : l = 5 := by
          rcases Nat.lt_or_ge l 5 with g | g
          · exact absurd (show nI l < nI 5 from nI_lt g (by omega)) q
          · omega
        subst this
        exact ihI o ho (by omega) h hk
    · intro o p k f g σ d M0 M K ho hn h hk
      show wpb_X2_readInnermost (wpG_X2_readLevel n).1 (wpG_X2_readLevel n).2.1 (wpG_X2_readLevel n).2.2.1 (wpG_X2_readLevel n).2.2.2 (nI o) M K
      unfold wpb_X2_readInnermost
      have hu := h.2.2.2.2.2.2.2.1
      have hkp := h.2.2.2.1
      obtain ⟨opn, hopn⟩ : ∃ opn : Int32 → PRs, QQ T m u (5 - o) (p, k, f) = leafS T m u opn (p, k, f) ∧ (o = 5 → opn = fun _ => (false, p, k, f)) ∧ (o < 5 → opn = fun x => if x = 33 then notS (QQ T m u (5 - (o + 1)) (p + 1, k, f)) else brkS T m (LVs T m (QQ T m u (5 - (o + 1))) 5 (p + 1, k, f))) := by
        rcases Nat.lt_or_ge o 5 with c | c
        · obtain ⟨r, hr⟩ : ∃ r, 5 - o = r + 1 := ⟨4 - o, by omega⟩
          have : 5 - (o + 1) = r := by omega
          rw [hr, this]
          exact ⟨_, rfl, fun e => by omega, fun _ => rfl⟩
        · have : o = 5 := by omega
          subst this
          exact ⟨_, rfl, fun _ => rfl, fun e => by omega⟩
      obtain ⟨ho1, ho2, ho3⟩ := hopn
      rw [ho1] at hk
      unfold leafS at hk
      simp only at hk
      refine c_next h (x_digit (fun e => b1a ?_) (fun e => b0a ?_))
      · rw [if_pos e] at hk
        exact c_number h e hk
      · rw [if_neg e] at hk
        have hopen : (nx T m p = 33 ∨ nx T m p = 40) → (∀ r M1, CQ T u m d (σ k) M0 (opn (nx T m p)) r M1 → K r M1) → wp_X2_readInnermost_b63 (wpG_X2_readLevel n).1 (wpG_X2_readLevel n).2.1 (wpG_X2_readLevel n).2.2.1 (wpG_X2_readLevel n).2.2.2 K (nI o) (nx T m p) M := by
          intro e3 hk
          have hp := nx_lt (show nx T m p ≠ -1 by rcases e3 with q | q <;> rw [q] <;> decide)
          unfold wp_X2_readInnermost_b63
          refine ⟨fun q => ?_, fun q => ?_⟩
          · have : o = 5 := by have := le_of_nI (a := 5) q (by omega) (by omega); omega
            rw [ho2 this] at hk
            exact c_stop h (fun r M1 h1 => hk _ _ (Or.inr ⟨rfl, h1⟩))
          · have ho5 : o < 5 := lt_of_nI (a := 5) q (by omega) (by omega)
            rw [ho3 ho5] at hk
            rw [nI_1]
            refine ⟨fun q2 => ?_, fun q2 => ?_⟩
            · simp only [if_neg q2] at hk
              exact ihB (o + 1) (by omega) (by omega) (h.go hp) hk
            · simp only [if_pos q2] at hk
              exact ihN (o + 1) (by omega) (by omega) (by omega) (h.go hp) hk
        refine x_name hu.1 hu.2 (fun e1 => ?_) (fun e1 => ?_)
        · rw [if_pos e1] at hk
          refine ⟨fun q => absurd (Int32.lt_iff_toInt_lt.mp q) (by rw [nI_toInt (by omega)]; show ¬ (_ : Int) < 0; omega), fun _ => ?_⟩
          have hp := nx_lt (nmO_ne e1)
          have hS := h.go hp
          refine x_name hS.2.2.2.2.2.2.2.1.1 hS.2.2.2.2.2.2.2.1.2 (fun _ => ?_) (fun e2 => absurd e1 e2)
          exact c_add (v := 10000 + nmO u (nx T m p)) (d1 := d + 1) (σ1 := upn (σ k) d k) hS (by omega) (Or.inr (Or.inl ⟨_, e1, rfl, rfl, rfl, rfl, rfl⟩)) (fun M1 hM => hk _ _ (cq_of (fun _ _ => rfl) hM))
        · rw [if_neg e1] at hk
          refine ⟨fun _ => ⟨fun q => ?_, fun q => ⟨fun q2 => ?_, fun q2 => ?_⟩⟩, fun q => absurd (by decide) q⟩
          · rw [if_pos (Or.inl q)] at hk; exact hopen (Or.inl q) hk
          · rw [if_neg (fun e3 => e3.elim q q2)] at hk
            exact c_stop h (fun r M1 h1 => hk _ _ (Or.inr ⟨rfl, h1⟩))
          · rw [if_pos (Or.inr q2)] at hk; exact hopen (Or.inr q2) hk
    · intro o p k f g σ d M0 M K ho hn hkp h hk
      show wpb_X2_readNot (wpG_X2_readLevel n).1 (wpG_X2_readLevel n).2.1 (wpG_X2_readLevel n).2.2.1 (wpG_X2_readLevel n).2.2.2 (nI o) M K
      unfold wpb_X2_readNot
      refine ihI o ho (by omega) h (fun r1 M1 h1 => ?_)
      unfold notS at hk
      rcases h1 with ⟨e1, g1, σ1, hS, hτ, hr⟩ | ⟨e1, hF⟩
      · rw [if_pos e1] at hk
        have hgood := (QQ_good (T := T) (u := u) (5 - o) (p, k, f) h.2.1).2.2 e1
        have hg1 : p + (QQ T m u (5 - o) (p, k, f)).2.2.1 ≤ (QQ T m u (5 - o) (p, k, f)).2.1 + k := hgood.1
        refine c_add (v := 20033) (d1 := d + 1) (σ1 := upn (σ1 (QQ T m u (5 - o) (p, k, f)).2.2.1) d (QQ T m u (5 - o) (p, k, f)).2.2.1) hS (by omega) (Or.inr (Or.inr (Or.inl ⟨d, rfl, rfl, rfl, hr, hr, rfl, rfl⟩))) (fun M2 h2 => hk _ _ (cq_of hτ h2))
      · rw [if_neg (by rw [e1]; decide)] at hk
        exact f_add hF (fun x M2 h2 => hk _ _ (Or.inr ⟨e1, h2⟩))
    · intro o p k f g σ d M0 M K ho hn h hk
      show wpb_X2_readBrackets (wpG_X2_readLevel n).1 (wpG_X2_readLevel n).2.1 (wpG_X2_readLevel n).2.2.1 (wpG_X2_readLevel n).2.2.2 (nI o) M K
      unfold wpb_X2_readBrackets
      unfold brkS at hk
      refine ihL 0 o (by omega) ho (by omega) h (fun r1 M1 h1 => ?_)
      have h1' : CQ T u m d (σ k) M0 (LVs T m (QQ T m u (5 - o)) 5 (p, k, f)) r1 M1 := h1
      rcases h1' with ⟨e1, g1, σ1, hS, hτ, hr⟩ | ⟨e1, hF⟩
      · rw [if_pos e1] at hk
        refine ⟨fun q => by rw [hS.2.2.2.2.2.2.1] at q; exact absurd q (by decide), fun _ => c_next hS ⟨fun q => ?_, fun q => ?_⟩⟩
        · rw [if_pos q] at hk
          have hp := nx_lt (show nx T m (LVs T m (QQ T m u (5 - o)) 5 (p, k, f)).2.1 ≠ -1 by rw [q]; decide)
          exact hk _ _ (Or.inl ⟨rfl, _, _, hS.go hp, hτ, hr⟩)
        · rw [if_neg q] at hk
          exact c_stop hS (fun r M2 h2 => hk _ _ (Or.inr ⟨rfl, h2⟩))
      · rw [if_neg (by rw [e1]; decide)] at hk
        have h6 := hF.2.2.2.2.2.1
        refine ⟨fun _ => f_stop hF (fun r M2 h2 => hk _ _ (Or.inr ⟨e1, h2⟩)), fun q => ?_⟩
        rw [h6] at q
        exact absurd (nI_le (a := 0) (b := (LVs T m (QQ T m u (5 - o)) 5 (p, k, f)).2.1) (by omega) (by have := hF.2.1; have := hF.2.2.1; omega)) q
end CG
