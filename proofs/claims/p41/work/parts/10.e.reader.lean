/-- rows of the reader -/
abbrev SR (b : Nat) : Bool := decide (60 ≤ b) && decide (b ≤ 66)
abbrev SN (b : Nat) : Bool := decide (61 ≤ b) && decide (b ≤ 64)
theorem in50_of {j : Nat} (h : j < 50) : In50 (nI j) := ⟨j, h, rfl⟩
theorem in50_0 : In50 0 := ⟨0, by decide, rfl⟩
/-- a node is added -/
theorem tx_add {a b c : Int32} {M : Mem} {K : Int32 → Mem → Prop} (hT : TX 61 M) (hl : (a = 48 ∨ a = 110) ∨ (In50 b ∧ In50 c)) (h : ∀ r M1, In50 r → St SN M M1 → TX 61 M1 → K r M1) : wp_X4_add 61 a b c M K := by
  obtain ⟨z, hz, ez, hj⟩ := hT
  have hT : TX 61 M := ⟨z, hz, ez, hj⟩
  unfold wp_X4_add
  simp only [show rf 61 0 = 62 from rfl, show rf 61 1 = 63 from rfl, show rf 61 2 = 64 from rfl, show ln 62 = 50 from rfl, show ln 63 = 50 from rfl, show ln 64 = 50 from rfl]
  simp only [up_cell (show 61 ≠ 62 by decide), up_cell (show 61 ≠ 63 by decide), ez]
  refine ⟨fun q => ?_, fun q => ?_⟩
  · have h50 : 50 ≤ z := le_of_nI (a := 50) q (by omega) (by omega)
    have : z = 50 := by omega
    subst this
    exact h _ _ ⟨49, by decide, by decide⟩ St.rf hT
  · have h50 : z < 50 := lt_of_nI (a := 50) q (by omega) (by omega)
    have hv : vp_in (nI z) 50 := vp_in_nI h50 (by decide)
    refine ⟨hv, hv, hv, ?_⟩
    rw [nI_clamp (by omega)]
    rintro _ rfl
    simp only [up_same, up_cell (show 61 ≠ 62 by decide), up_cell (show 61 ≠ 63 by decide), up_cell (show 61 ≠ 64 by decide), ez]
    rw [nI_1, nI_pred]
    refine h _ _ (in50_of h50) ((((St.rf.up rfl).up rfl).up rfl).up rfl) ⟨z + 1, by omega, up_same, fun j hjz => ?_⟩
    simp only [show 61 + 1 = 62 from rfl, show 61 + 2 = 63 from rfl, show 61 + 3 = 64 from rfl]
    rcases Nat.lt_or_ge j z with g | g
    · have := hj j g
      simp only [show 61 + 1 = 62 from rfl, show 61 + 2 = 63 from rfl, show 61 + 3 = 64 from rfl] at this
      have hne : j ≠ z := by omega
      simp only [up_cell (show 62 ≠ 61 by decide), up_cell (show 62 ≠ 63 by decide), up_cell (show 62 ≠ 64 by decide), up_cell (show 63 ≠ 61 by decide), up_cell (show 63 ≠ 62 by decide), up_cell (show 63 ≠ 64 by decide), up_cell (show 64 ≠ 61 by decide), up_cell (show 64 ≠ 62 by decide), up_cell (show 64 ≠ 63 by decide), up_slot _ hne]
      exact this
    · have : j = z := by omega
      subst this
      simp only [up_cell (show 62 ≠ 61 by decide), up_cell (show 62 ≠ 63 by decide), up_cell (show 62 ≠ 64 by decide), up_cell (show 63 ≠ 61 by decide), up_cell (show 63 ≠ 62 by decide), up_cell (show 63 ≠ 64 by decide), up_cell (show 64 ≠ 61 by decide), up_cell (show 64 ≠ 62 by decide), up_cell (show 64 ≠ 63 by decide), up_same]
      rcases hl with (e | e) | e
      · exact Or.inl e
      · exact Or.inr (Or.inl e)
      · exact Or.inr (Or.inr e)
/-- the reader at place p of m bytes -/
def RS (m p : Nat) (M0 M : Mem) : Prop := St SR M0 M ∧ p ≤ m ∧ m ≤ 50 ∧ M 60 2 = nI m ∧ M 60 3 = nI p ∧ TX 61 M
theorem RS.node {m p : Nat} {M0 M M1 : Mem} (h : RS m p M0 M) (hs : St SN M M1) (hT : TX 61 M1) : RS m p M0 M1 := by
  have e : M1 60 = M 60 := hs 60 rfl
  exact ⟨h.1.tr (hs.w (by simp <;> omega)), h.2.1, h.2.2.1, by rw [e]; exact h.2.2.2.1, by rw [e]; exact h.2.2.2.2.1, hT⟩
theorem RS.go {m p : Nat} {M0 M : Mem} (h : RS m p M0 M) (hp : p < m) : RS m (p + 1) M0 (up M 60 3 (M 60 3 + 1)) := ⟨h.1.up rfl, hp, h.2.2.1, by rw [up_slot _ (by decide)]; exact h.2.2.2.1, by rw [up_same, h.2.2.2.2.1, nI_1], h.2.2.2.2.2.keep (up_o _ (by decide)) (up_o _ (by decide)) (up_o _ (by decide)) (up_o _ (by decide))⟩
theorem RS.fault {m p : Nat} {x : Int32} {M0 M : Mem} (h : RS m p M0 M) : RS m p M0 (up M 60 4 x) := ⟨h.1.up rfl, h.2.1, h.2.2.1, by rw [up_slot _ (by decide)]; exact h.2.2.2.1, by rw [up_slot _ (by decide)]; exact h.2.2.2.2.1, h.2.2.2.2.2.keep (up_o _ (by decide)) (up_o _ (by decide)) (up_o _ (by decide)) (up_o _ (by decide))⟩
theorem r_next {m p : Nat} {M0 M : Mem} {K : Int32 → Mem → Prop} (h : RS m p M0 M) (hk : ∀ r, r = -1 ∨ p < m → K r M) : wp_X2_next M K := by
  unfold wp_X2_next
  have hm := h.2.2.1
  rw [h.2.2.2.1, h.2.2.2.2.1]
  refine ⟨fun _ => hk _ (Or.inl rfl), fun q => ?_⟩
  have hp : p < m := lt_of_nI q (by omega) (by have := h.2.1; omega)
  exact ⟨vp_in_nI (by omega) (by decide), hk _ (Or.inr hp)⟩
theorem r_digit {x : Int32} {M : Mem} {K : Int32 → Mem → Prop} (h1 : 48 ≤ x.toInt → x.toInt ≤ 57 → K 1 M) (h0 : K 0 M) : wp_X2_isDigit x M K := by
  unfold wp_X2_isDigit
  exact w7 48 57 (by decide) (by decide) (fun g1 g2 => ⟨Or.inr rfl, h1 g1 g2⟩) (fun _ => ⟨Or.inl rfl, h0⟩)
theorem r_stop {m p : Nat} {M0 M : Mem} {K : Int32 → Mem → Prop} (h : RS m p M0 M) (hk : ∀ r p' M1, In50 r → RS m p' M0 M1 → K r M1) : wp_X2_stop M K := by
  unfold wp_X2_stop
  exact ⟨fun _ => hk _ _ _ in50_0 h, fun _ => hk _ _ _ in50_0 h.fault⟩
theorem r_name {x : Int32} {M : Mem} {K : Int32 → Mem → Prop} (h1 : ∀ r, x ≠ -1 → K r M) (h0 : K (-1) M) : wp_X2_nameOf x M K := by
  unfold wp_X2_nameOf
  refine ⟨fun _ => ⟨fun _ => ⟨fun _ => ⟨fun _ => h0, fun e => h1 _ (by rw [e]; decide)⟩, fun _ => ⟨fun _ => h0, fun e => h1 _ (by rw [e]; decide)⟩⟩, fun e => h1 _ (by rw [e]; decide)⟩, fun e => h1 _ (by rw [e]; decide)⟩
theorem r_level {x : Int32} {M : Mem} {K : Int32 → Mem → Prop} (h1 : ∀ r, x ≠ -1 → K r M) (h0 : K (-1) M) : wp_X2_levelOf x M K := by
  unfold wp_X2_levelOf
  repeat' (first | exact h0 | (refine ⟨fun e => h1 _ (by rw [e]; decide), fun _ => ?_⟩))
theorem r_number {m p : Nat} {M0 M : Mem} {K : Int32 → Mem → Prop} (h : RS m p M0 M) (hk : ∀ r p' M1, In50 r → RS m p' M0 M1 → K r M1) : wp_X2_readNumber M K := by
  unfold wp_X2_readNumber
  refine loopNA (L := fun k a i M' => wp_X2_readNumber_L4 K k a i M') 4 (fun _ _ M' => ∃ p', RS m p' M0 M') ?_ 0 (Nat.zero_le _) ⟨p, h⟩
  intro i a M' k hi hs ih
  obtain ⟨p', hs⟩ := hs
  show wp_X2_readNumber_l4 K (wp_X2_readNumber_L4 K k) a (nI i) M'
  unfold wp_X2_readNumber_l4
  have hadd : ∀ a, wp_X4_add 61 48 a 0 M' (fun r M1 => K r M1) := fun a => tx_add hs.2.2.2.2.2 (Or.inl (Or.inl rfl)) (fun r M1 hr h1 h2 => hk _ _ _ hr (hs.node h1 h2))
  refine ⟨fun _ => hadd _, fun q => r_next hs (fun r1 hr1 => r_digit (fun g1 g2 => b1a ?_) (b0a (hadd _)))⟩
  have hi2 : i < 4 := lt_of_nI (a := 4) q (by omega) (by omega)
  have hp : p' < m := by
    rcases hr1 with e | e
    · rw [e] at g1; exact absurd g1 (by decide)
    · exact e
  rw [nI_1]
  exact r_next hs (fun r2 _ => ih _ _ hi2 ⟨_, hs.go hp⟩)
theorem r_group : ∀ n : Nat,
    (∀ (l o : Nat) {m p : Nat} {M0 M : Mem} {K : Int32 → Mem → Prop}, l ≤ 5 → o ≤ 5 → (5 - l) + 2 + 8 * (5 - o) ≤ n → RS m p M0 M → (∀ r p' M1, In50 r → RS m p' M0 M1 → K r M1) → wp_X2_readLevel n (nI l) (nI o) M K) ∧
    (∀ (o : Nat) {m p : Nat} {M0 M : Mem} {K : Int32 → Mem → Prop}, o ≤ 5 → 8 * (5 - o) + 1 ≤ n → RS m p M0 M → (∀ r p' M1, In50 r → RS m p' M0 M1 → K r M1) → wp_X2_readInnermost n (nI o) M K) ∧
    (∀ (o : Nat) {m p : Nat} {M0 M : Mem} {K : Int32 → Mem → Prop}, o ≤ 5 → 8 * (5 - o) + 2 ≤ n → RS m p M0 M → (∀ r p' M1, In50 r → RS m p' M0 M1 → K r M1) → wp_X2_readNot n (nI o) M K) ∧
    (∀ (o : Nat) {m p : Nat} {M0 M : Mem} {K : Int32 → Mem → Prop}, o ≤ 5 → 8 * (5 - o) + 8 ≤ n → RS m p M0 M → (∀ r p' M1, In50 r → RS m p' M0 M1 → K r M1) → wp_X2_readBrackets n (nI o) M K) := by
  intro n
  induction n with
  | zero => refine ⟨?_, ?_, ?_, ?_⟩ <;> (intros; omega)
  | succ n ih =>
    obtain ⟨ihL, ihI, ihN, ihB⟩ := ih
    refine ⟨?_, ?_, ?_, ?_⟩
    · intro l o m p M0 M K hl ho hn h hk
      show wpb_X2_readLevel (wpG_X2_readLevel n).1 (wpG_X2_readLevel n).2.1 (wpG_X2_readLevel n).2.2.1 (wpG_X2_readLevel n).2.2.2 (nI l) (nI o) M K
      unfold wpb_X2_readLevel
      refine ⟨fun q => ?_, fun q => ?_⟩
      · have hl5 : l < 5 := by
          rcases Nat.lt_or_ge l 5 with g | g
          · exact g
          · exact absurd q (nI_nlt (a := l) (b := 5) g (by omega))
        rw [nI_1]
        refine ihL (l + 1) o (by omega) ho (by omega) h (fun r p' M1 hr h1 => ?_)
        have hloop : ∀ w : Nat, w ≤ 50 → ∃ n_1, wp_X2_readLevel_L36 (wpG_X2_readLevel n).1 (wpG_X2_readLevel n).2.1 (wpG_X2_readLevel n).2.2.1 (wpG_X2_readLevel n).2.2.2 K (nI l) (nI o) (nI w) n_1 r 0 M1 := by
          intro w hw
          refine loopNA (L := fun k a i M' => wp_X2_readLevel_L36 (wpG_X2_readLevel n).1 (wpG_X2_readLevel n).2.1 (wpG_X2_readLevel n).2.2.1 (wpG_X2_readLevel n).2.2.2 K (nI l) (nI o) (nI w) k a i M') w (fun _ a M' => In50 a ∧ ∃ p', RS m p' M0 M') ?_ 0 (Nat.zero_le _) ⟨hr, _, h1⟩
          intro i a M' k hi hs ih2
          obtain ⟨ha, p2, hs⟩ := hs
          show wp_X2_readLevel_l36 (wpG_X2_readLevel n).1 (wpG_X2_readLevel n).2.1 (wpG_X2_readLevel n).2.2.1 (wpG_X2_readLevel n).2.2.2 K (nI l) (nI o) (nI w) _ a (nI i) M'
          unfold wp_X2_readLevel_l36
          refine ⟨fun _ => hk _ _ _ ha hs, fun q => ⟨fun _ => hk _ _ _ ha hs, fun _ => ?_⟩⟩
          have hi2 : i < w := lt_of_nI q (by omega) (by omega)
          refine r_next hs (fun r1 hr1 => r_level (fun r2 hr2 => ⟨fun _ => hk _ _ _ ha hs, fun _ => ?_⟩) ⟨fun _ => hk _ _ _ ha hs, fun e => ?_⟩)
          · have hp : p2 < m := hr1.resolve_left hr2
            rw [nI_1, nI_1]
            refine r_next hs (fun r3 _ => ihL (l + 1) o (by omega) ho (by omega) (hs.go hp) (fun r4 p4 M4 hr4 h4 => tx_add h4.2.2.2.2.2 (Or.inr ⟨ha, hr4⟩) (fun r5 M5 hr5 h5 h6 => ih2 _ _ hi2 ⟨hr5, _, h4.node h5 h6⟩)))
          · exact absurd (show (nI l).toInt = -1 by rw [← e]; rfl) (by rw [nI_toInt (by omega)]; omega)
        exact ⟨fun _ => hloop 50 (by omega), fun _ => hloop 1 (by omega)⟩
      · exact ihI o ho (by
          have : l = 5 := by
            rcases Nat.lt_or_ge l 5 with g | g
            · exact absurd (show nI l < nI 5 from nI_lt g (by omega)) q
            · omega
          omega) h hk
    · intro o m p M0 M K ho hn h hk
      show wpb_X2_readInnermost (wpG_X2_readLevel n).1 (wpG_X2_readLevel n).2.1 (wpG_X2_readLevel n).2.2.1 (wpG_X2_readLevel n).2.2.2 (nI o) M K
      unfold wpb_X2_readInnermost
      refine r_next h (fun r1 hr1 => r_digit (fun g1 g2 => b1a (r_number h hk)) (b0a ?_))
      have hp : r1 ≠ -1 → p < m := fun e => hr1.resolve_left e
      have hb : r1 ≠ -1 → wp_X2_readInnermost_b63 (wpG_X2_readLevel n).1 (wpG_X2_readLevel n).2.1 (wpG_X2_readLevel n).2.2.1 (wpG_X2_readLevel n).2.2.2 K (nI o) r1 M := by
        intro e
        unfold wp_X2_readInnermost_b63
        refine ⟨fun _ => r_stop h hk, fun q => ?_⟩
        have ho5 : o < 5 := lt_of_nI (a := 5) q (by omega) (by omega)
        rw [nI_1]
        exact ⟨fun _ => ihB (o + 1) (by omega) (by omega) (h.go (hp e)) hk, fun _ => ihN (o + 1) (by omega) (by omega) (h.go (hp e)) hk⟩
      refine r_name (fun r2 hr2 => ⟨fun _ => ⟨fun _ => hb hr2, fun _ => ⟨fun _ => r_stop h hk, fun _ => hb hr2⟩⟩, fun _ => ?_⟩) ⟨fun _ => ⟨fun e => hb (by rw [e]; decide), fun _ => ⟨fun _ => r_stop h hk, fun e => hb (by rw [e]; decide)⟩⟩, fun q => absurd (by decide) q⟩
      exact r_name (fun r3 _ => tx_add (h.go (hp hr2)).2.2.2.2.2 (Or.inl (Or.inr rfl)) (fun r4 M4 hr4 h4 h5 => hk _ _ _ hr4 ((h.go (hp hr2)).node h4 h5))) (tx_add (h.go (hp hr2)).2.2.2.2.2 (Or.inl (Or.inr rfl)) (fun r4 M4 hr4 h4 h5 => hk _ _ _ hr4 ((h.go (hp hr2)).node h4 h5)))
    · intro o m p M0 M K ho hn h hk
      show wpb_X2_readNot (wpG_X2_readLevel n).1 (wpG_X2_readLevel n).2.1 (wpG_X2_readLevel n).2.2.1 (wpG_X2_readLevel n).2.2.2 (nI o) M K
      unfold wpb_X2_readNot
      exact ihI o ho (by omega) h (fun r1 p1 M1 hr1 h1 => tx_add h1.2.2.2.2.2 (Or.inr ⟨hr1, hr1⟩) (fun r4 M4 hr4 h4 h5 => hk _ _ _ hr4 (h1.node h4 h5)))
    · intro o m p M0 M K ho hn h hk
      show wpb_X2_readBrackets (wpG_X2_readLevel n).1 (wpG_X2_readLevel n).2.1 (wpG_X2_readLevel n).2.2.1 (wpG_X2_readLevel n).2.2.2 (nI o) M K
      unfold wpb_X2_readBrackets
      refine ihL 0 o (by omega) ho (by omega) h (fun r1 p1 M1 hr1 h1 => ⟨fun _ => r_stop h1 hk, fun _ => r_next h1 (fun r2 hr2 => ⟨fun e => ?_, fun _ => r_stop h1 hk⟩)⟩)
      exact hk _ _ _ hr1 (h1.go (hr2.resolve_left (by rw [e]; decide)))
/-- a tape is read -/
theorem p_read {x b : Nat} {u : Int32} {M : Mem} {K : Int32 → Mem → Prop} (hb : b ≤ 50) (hx : ln x = 50) (hk : ∀ r M1, St SR M M1 → TX 61 M1 → K r M1) : wp_X2_read x (nI b) u M K := by
  unfold wp_X2_read
  have hif : (if (50 : Int32) < nI b then (50 : Int32) else nI b) = nI b := if_neg (nI_nlt (a := 50) (b := b) hb (by omega))
  rw [hif]
  simp only [up_same, nI_clamp (show b < 2 ^ 31 by omega), hx]
  refine ⟨by decide, by decide, nI_pos (by omega), by simp; omega, by simp; omega, ?_⟩
  rintro _ rfl
  unfold wp_X4_clear
  refine (r_group 64).1 0 0 (m := b) (p := 0) (M0 := M) (by omega) (by omega) (by omega) ?_ (fun r p' M1 hr h1 => ?_)
  · refine ⟨((((((St.rf.up rfl).upA rfl).up rfl).up rfl).up rfl).up rfl), by omega, hb, ?_, ?_, ⟨0, by omega, up_same, fun j hj => by omega⟩⟩
    · rw [up_cell (by decide), up_cell (by decide), up_slot _ (by decide), up_slot _ (by decide), upA_cell (by decide), up_same]
    · rw [up_cell (by decide), up_cell (by decide), up_slot _ (by decide), up_same]; rfl
  · have hf := h1.fault (x := M1 60 3)
    exact ⟨fun _ => hk _ _ h1.1 h1.2.2.2.2.2, fun _ => ⟨fun _ => hk _ _ h1.1 h1.2.2.2.2.2, fun _ => hk _ _ hf.1 hf.2.2.2.2.2⟩⟩
