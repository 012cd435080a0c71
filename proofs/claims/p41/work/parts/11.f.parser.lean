/-! the model reads a text -/
abbrev SP (b : Nat) : Bool := b == 79 || b == 84
def PLt (M0 M : Mem) : Prop := St SP M0 M ∧ ∀ k, k ≠ 7 → k ≠ 9 → k ≠ 10 → k ≠ 11 → M 79 k = M0 79 k
/-- good so far: at place a of e, s steps, o open, the pile d high -/
def PG (e a s o d : Nat) (M0 M : Mem) : Prop := PLt M0 M ∧ M0 79 8 = nI e ∧ e ≤ 50 ∧ M 79 7 = nI a ∧ a ≤ e ∧ M 79 10 = nI s ∧ s ≤ a ∧ M 79 9 = nI o ∧ o ≤ 5 ∧ M 79 11 = 1 ∧ ∃ g : Nat → Nat, g 0 = 0 ∧ g s = d ∧ ∀ k, k < s → SOK (M 84 k) (g k) (g (k + 1))
def QF (e a s o d : Nat) (M0 M1 : Mem) : Prop := (M1 79 11 = 0 ∧ PLt M0 M1) ∨ ∃ a' s', PG e a' s' o (d + 1) M0 M1 ∧ a + s' ≤ a' + s ∧ a ≤ a'
theorem PLt.up79 {k : Nat} {x : Int32} {M0 M : Mem} (h : PLt M0 M) (hk : k = 7 ∨ k = 9 ∨ k = 10 ∨ k = 11) : PLt M0 (up M 79 k x) := ⟨h.1.up rfl, fun j h1 h2 h3 h4 => by rw [up_slot _ (by omega)]; exact h.2 j h1 h2 h3 h4⟩
section PA
variable {e a s o d : Nat} {M0 M : Mem}
theorem PG.go (h : PG e a s o d M0 M) (ha : a < e) : PG e (a + 1) s o d M0 (up M 79 7 (M 79 7 + 1)) := by
  obtain ⟨h1, h2, h3, h4, h5, h6, h7, h8, h9, h10, g, g0, gs, hg⟩ := h
  refine ⟨h1.up79 (by omega), h2, h3, by rw [up_same, h4, nI_1], by omega, by rw [up_slot _ (by decide)]; exact h6, by omega, by rw [up_slot _ (by decide)]; exact h8, h9, by rw [up_slot _ (by decide)]; exact h10, g, g0, gs, fun k hk => by rw [up_cell (by decide)]; exact hg k hk⟩
theorem PG.opn {o2 : Nat} {x : Int32} (h : PG e a s o d M0 M) (hx : x = nI o2) (ho : o2 ≤ 5) : PG e a s o2 d M0 (up M 79 9 x) := by
  obtain ⟨h1, h2, h3, h4, h5, h6, h7, h8, h9, h10, g, g0, gs, hg⟩ := h
  refine ⟨h1.up79 (by omega), h2, h3, by rw [up_slot _ (by decide)]; exact h4, h5, by rw [up_slot _ (by decide)]; exact h6, h7, by rw [up_same]; exact hx, ho, by rw [up_slot _ (by decide)]; exact h10, g, g0, gs, fun k hk => by rw [up_cell (by decide)]; exact hg k hk⟩
theorem y_byte {K : Int32 → Mem → Prop} (h : PG e a s o d M0 M) (hk1 : a < e → K (M0 80 (74 + a)) M) (hk0 : e ≤ a → K (-1) M) : wp_X8_byteAt (M 79 7) M K := by
  obtain ⟨h1, h2, h3, h4, h5, h6, h7, h8, h9, h10, hg⟩ := h
  unfold wp_X8_byteAt
  have e8 : M 79 8 = nI e := (h1.2 8 (by decide) (by decide) (by decide) (by decide)).trans h2
  rw [e8, h4]
  refine pk_le e a hk0 (fun q => ?_)
  have e80 : M 80 = M0 80 := h1.1 80 rfl
  rw [show (74 : Int32) = nI 74 from rfl, nI_add, nI_clamp (by omega), e80]
  exact ⟨vp_in_nI (by omega) (by decide), hk1 q⟩
theorem y_digit {x : Int32} {K : Int32 → Mem → Prop} (h1 : 48 ≤ x.toInt → x.toInt ≤ 57 → K 1 M) (h0 : ¬ (48 ≤ x.toInt ∧ x.toInt ≤ 57) → K 0 M) : wp_X8_isDigit x M K := by
  unfold wp_X8_isDigit
  exact w8 48 57 (by decide) (by decide) (fun g1 g2 => ⟨Or.inr rfl, h1 g1 g2⟩) (fun g => ⟨Or.inl rfl, h0 g⟩)
theorem y_adds {d2 : Nat} {x : Int32} {K : Mem → Prop} (h : PG e a s o d M0 M) (hs : s < a) (hx : SOK x d d2) (hk : ∀ M1, PG e a (s + 1) o d2 M0 M1 → K M1) : wp_X8_adds x M K := by
  obtain ⟨h1, h2, h3, h4, h5, h6, h7, h8, h9, h10, g, g0, gs, hg⟩ := h
  unfold wp_X8_adds
  refine ⟨fun q => absurd (h10.symm.trans q) (by decide), fun _ => ?_⟩
  rw [h6, nI_clamp (by omega), up_cell (by decide), h6, nI_1]
  have hr : ∀ k, k ≠ 10 → up (up M 84 s x) 79 10 (nI (s + 1)) 79 k = M 79 k := fun k hk => by rw [up_slot _ hk, up_cell (by decide)]
  refine ⟨vp_in_nI (by omega) (by decide), hk _ ⟨⟨(h1.1.up rfl).up rfl, fun k k1 k2 k3 k4 => by rw [hr k k3]; exact h1.2 k k1 k2 k3 k4⟩, h2, h3, by rw [hr _ (by decide)]; exact h4, h5, up_same, by omega, by rw [hr _ (by decide)]; exact h8, h9, by rw [hr _ (by decide)]; exact h10, fun k => if k ≤ s then g k else d2, by simp [g0], if_neg (by omega), fun k hk => ?_⟩⟩
  rw [up_cell (by decide)]
  rcases Nat.lt_or_ge k s with c | c
  · rw [up_slot _ (by omega)]
    simp only [if_pos (show k ≤ s by omega), if_pos (show k + 1 ≤ s by omega)]
    exact hg k c
  · have : k = s := by omega
    subst this
    rw [up_same]
    simp only [if_pos (Nat.le_refl k), if_neg (show ¬ k + 1 ≤ k by omega), gs]
    exact hx
theorem y_adds0 {x : Int32} {K : Mem → Prop} (h : M 79 11 = 0) (hk : K M) : wp_X8_adds x M K := by
  unfold wp_X8_adds
  exact ⟨fun _ => hk, fun q => absurd h q⟩
theorem sok_num {v : Nat} (h : v < 10003) : SOK (nI v) d (d + 1) := Or.inl ⟨v, h, rfl, rfl⟩
theorem y_number {K : Mem → Prop} (h : PG e a s o d M0 M) (ha : a < e) (hd : 48 ≤ (M0 80 (74 + a)).toInt ∧ (M0 80 (74 + a)).toInt ≤ 57) (hk : ∀ M1, QF e a s o d M0 M1 → K M1) : wp_X8_number M K := by
  unfold wp_X8_number
  refine loopNA (L := fun k v i M' => wp_X8_number_L4 K k v i M') 4 (fun i v M' => PG e (a + i) s o d M0 M' ∧ ∃ w : Nat, v = nI w ∧ w < 10 ^ i) ?_ 0 (Nat.zero_le _) ⟨h, 0, rfl, by decide⟩
  intro i v M' k hi hs ih
  obtain ⟨hs, w, rfl, hw⟩ := hs
  have hw4 : w < 10000 := by
    have : 10 ^ i ≤ 10 ^ 4 := Nat.pow_le_pow_right (by omega) hi
    omega
  show wp_X8_number_l4 K (wp_X8_number_L4 K k) (nI w) (nI i) M'
  unfold wp_X8_number_l4
  have fin : 1 ≤ i → wp_X8_adds (nI w) M' (fun M402 => K M402) := fun h1 => by
    have h7 := h.2.2.2.2.2.2.1
    exact y_adds hs (by omega) (sok_num (by omega)) (fun M1 g1 => hk _ (Or.inr ⟨_, _, g1, by omega, by omega⟩))
  refine ⟨fun q => fin (by have := le_of_nI (a := 4) q (by omega) (by omega); omega), fun q => ?_⟩
  have hi4 : i < 4 := lt_of_nI (a := 4) q (by omega) (by omega)
  refine y_byte hs (fun hae => y_digit (fun g1 g2 => b1a ?_) (fun g => b0a ?_)) (fun hae => y_digit (fun g1 g2 => absurd g1 (by decide)) (fun g => b0a ?_))
  · refine y_byte hs (fun _ => ?_) (fun hae2 => by omega)
    obtain ⟨c, hc, ec⟩ := nat_of (x := M0 80 (74 + (a + i))) 57 (by omega) g2 (by decide)
    rw [ec, nI_toInt (by omega)] at g1
    have ev : (10 : Int32) * nI w + nI c - 48 = nI (10 * w + (c - 48)) := by
      rw [show (10 : Int32) = nI 10 from rfl, show (48 : Int32) = nI 48 from rfl, pk_mul, nI_add, pk_sub (by omega)]
      congr 1; omega
    rw [ec, ev, nI_1]
    refine ih _ _ hi4 ⟨by have := hs.go hae; rwa [Nat.add_assoc] at this, _, rfl, ?_⟩
    rw [Nat.pow_succ]; omega
  · refine fin ?_
    rcases Nat.eq_zero_or_pos i with e0 | e0
    · subst e0; exact absurd hd g
    · exact e0
  · refine fin ?_
    omega
theorem PG.bad {x : Int32} (h : PG e a s o d M0 M) (hx : x = 0) : QF e a s o d M0 (up M 79 11 x) := Or.inl ⟨by rw [up_same, hx], h.1.up79 (by omega)⟩
theorem y_named {c : Int32} {K : Mem → Prop} (h : PG e a s o d M0 M) (hc : c = -1 ∨ a < e) (hk : ∀ M1, QF e a s o d M0 M1 → K M1) : wp_X8_named c M K := by
  have h0 : ∀ f g, wp_X8_named_b68 K f g 0 M := fun f g => by
    unfold wp_X8_named_b68
    exact ⟨Or.inl rfl, fun _ => hk _ (h.bad rfl), fun q => absurd up_same q⟩
  have h1 : ∀ f g, c ≠ -1 → wp_X8_named_b68 K f g 1 M := fun f g hne => by
    have ha : a < e := hc.resolve_left hne
    unfold wp_X8_named_b68
    have hg : PG e a s o d M0 (up M 79 11 1) := by
      obtain ⟨p1, p2, p3, p4, p5, p6, p7, p8, p9, p10, w, w0, ws, hw⟩ := h
      exact ⟨p1.up79 (by omega), p2, p3, by rw [up_slot _ (by decide)]; exact p4, p5, by rw [up_slot _ (by decide)]; exact p6, p7, by rw [up_slot _ (by decide)]; exact p8, p9, up_same, w, w0, ws, fun k hk => by rw [up_cell (by decide)]; exact hw k hk⟩
    have h7 := h.2.2.2.2.2.2.1
    have ad : ∀ v : Nat, v < 10003 → wp_X8_adds (nI v) (up (up M 79 11 1) 79 7 (((up M 79 11 1) 79 7) + 1)) (fun N => K N) := fun v hv => y_adds (hg.go ha) (by omega) (sok_num hv) (fun M1 g1 => hk _ (Or.inr ⟨_, _, g1, by omega, by omega⟩))
    refine ⟨Or.inr rfl, fun q => absurd (up_same.symm.trans q) (by decide), fun _ => ⟨fun _ => ⟨fun _ => ad 10002 (by omega), fun _ => ad 10001 (by omega)⟩, fun _ => ad 10000 (by omega)⟩⟩
  have hb39 : ∀ (f g t0 : Int32), (¬ f = 0 → c ≠ -1) → (¬ g = 0 → c ≠ -1) → t0 ≠ -1 → wp_X8_named_b39 K f g t0 c M := fun f g t0 hf hg ht => by
    unfold wp_X8_named_b39
    refine ⟨fun q => ⟨fun q1 => h1 _ _ (hf q1), fun q1 => ⟨fun q2 => h1 _ _ (hg q2), fun _ => h0 _ _⟩⟩, fun q => ?_⟩
    have hne : c ≠ -1 := by rw [q]; exact ht
    exact ⟨fun _ => h1 _ _ hne, fun _ => ⟨fun _ => h1 _ _ hne, fun _ => h1 _ _ hne⟩⟩
  have hb11 : ∀ f : Int32, (¬ f = 0 → c ≠ -1) → wp_X8_named_b11 K c f M := fun f hf => by
    unfold wp_X8_named_b11
    refine ⟨fun q => ⟨fun _ => hb39 _ _ _ hf (fun q2 => absurd rfl q2) (by decide), fun _ => hb39 _ _ _ hf (fun q2 => absurd rfl q2) (by decide)⟩, fun q => ?_⟩
    have hne : c ≠ -1 := by rw [q]; decide
    exact ⟨fun _ => hb39 _ _ _ hf (fun _ => hne) (by decide), fun _ => hb39 _ _ _ hf (fun _ => hne) (by decide)⟩
  unfold wp_X8_named
  exact ⟨fun _ => hb11 _ (fun q => absurd rfl q), fun q => hb11 _ (fun _ => by rw [q]; decide)⟩
/-- a sign joins two -/
theorem sok_join {v : Nat} (h1 : 20000 ≤ v) (h2 : v ≠ 20033) (h3 : v < 2 ^ 30) : SOK (nI v) (d + 2) (d + 1) := Or.inr (Or.inr ⟨v, h1, h2, h3, rfl, by omega, by omega⟩)
end PA
theorem qf_0 {e a s o d : Nat} {M0 M : Mem} {P Q : Prop} (h : QF e a s o d M0 M) (h0 : M 79 11 = 0 → PLt M0 M → P) (h1 : ∀ a' s', PG e a' s' o (d + 1) M0 M → a + s' ≤ a' + s → a ≤ a' → Q) : (M 79 11 = 0 → P) ∧ (¬ M 79 11 = 0 → Q) := by
  rcases h with ⟨e0, hp⟩ | ⟨a', s', hg, hle, hle2⟩
  · exact ⟨fun _ => h0 e0 hp, fun q => absurd e0 q⟩
  · exact ⟨fun q => absurd (hg.2.2.2.2.2.2.2.2.2.1.symm.trans q) (by decide), fun _ => h1 a' s' hg hle hle2⟩
/-- what each reader of the group keeps -/
def RdOK (R : Mem → (Mem → Prop) → Prop) (o : Nat) : Prop := ∀ {e a s d : Nat} {M0 M : Mem} {K : Mem → Prop}, PG e a s o d M0 M → (∀ M1, QF e a s o d M0 M1 → K M1) → R M K
/-- behind a sign: the part, and the step -/
theorem y_join {R : Mem → (Mem → Prop) → Prop} {e a s o d v : Nat} {M0 M : Mem} {K : Mem → Prop} (hR : RdOK R o) (h : PG e a s o (d + 1) M0 M) (ha : a < e) (h1 : 20000 ≤ v) (h2 : v ≠ 20033) (h3 : v < 2 ^ 30)
    (hk0 : ∀ M1, M1 79 11 = 0 → PLt M0 M1 → K M1) (hk1 : ∀ a' s' M1, PG e a' s' o (d + 1) M0 M1 → a < a' → a + s' ≤ a' + s → K M1) : R (up M 79 7 (M 79 7 + 1)) (fun N => wp_X8_adds (nI v) N K) := by
  refine hR (h.go ha) (fun M1 hq => ?_)
  rcases hq with ⟨e0, hp⟩ | ⟨a', s', hg, hle, hle2⟩
  · exact y_adds0 e0 (hk0 _ e0 hp)
  · have h7' := h.2.2.2.2.2.2.1
    exact y_adds hg (by omega) (sok_join h1 h2 h3) (fun M2 g2 => hk1 a' (s' + 1) M2 g2 (by omega) (by omega))
/-- the state of a loop, k places left -/
def QK (e a s o d k : Nat) (M0 M1 : Mem) : Prop := (M1 79 11 = 0 ∧ PLt M0 M1) ∨ ∃ a' s', PG e a' s' o (d + 1) M0 M1 ∧ a + s' ≤ a' + s ∧ a ≤ a' ∧ k = e - a'
theorem QK.qf {e a s o d k : Nat} {M0 M1 : Mem} (h : QK e a s o d k M0 M1) : QF e a s o d M0 M1 := by
  rcases h with h | ⟨a', s', h1, h2, h3, -⟩
  · exact Or.inl h
  · exact Or.inr ⟨a', s', h1, h2, h3⟩
theorem QF.qk {e a s o d : Nat} {M0 M1 : Mem} (h : QF e a s o d M0 M1) : ∃ k, QK e a s o d k M0 M1 := by
  rcases h with h | ⟨a', s', h1, h2, h3⟩
  · exact ⟨0, Or.inl h⟩
  · exact ⟨_, Or.inr ⟨a', s', h1, h2, h3, rfl⟩⟩
theorem y_group : ∀ n : Nat,
    (∀ o : Nat, o ≤ 5 → 6 * (5 - o) + 1 ≤ n → RdOK (wp_X8_factor n) o) ∧ (∀ o : Nat, o ≤ 5 → 6 * (5 - o) + 2 ≤ n → RdOK (wp_X8_product n) o) ∧ (∀ o : Nat, o ≤ 5 → 6 * (5 - o) + 3 ≤ n → RdOK (wp_X8_sum n) o) ∧
    (∀ o : Nat, o ≤ 5 → 6 * (5 - o) + 4 ≤ n → RdOK (wp_X8_compared n) o) ∧ (∀ o : Nat, o ≤ 5 → 6 * (5 - o) + 5 ≤ n → RdOK (wp_X8_both n) o) ∧ (∀ o : Nat, o ≤ 5 → 6 * (5 - o) + 6 ≤ n → RdOK (wp_X8_whole n) o) := by
  intro n
  induction n with
  | zero => refine ⟨?_, ?_, ?_, ?_, ?_, ?_⟩ <;> (intros; omega)
  | succ n ih =>
    obtain ⟨ihF, ihP, ihS, ihC, ihB, ihW⟩ := ih
    refine ⟨?_, ?_, ?_, ?_, ?_, ?_⟩
    · intro o ho hn e a s d M0 M K h hk
      show wpb_X8_factor (wpG_X8_factor n).1 (wpG_X8_factor n).2.1 (wpG_X8_factor n).2.2.1 (wpG_X8_factor n).2.2.2.1 (wpG_X8_factor n).2.2.2.2.1 (wpG_X8_factor n).2.2.2.2.2 M K
      unfold wpb_X8_factor
      have hb : (¬ M0 80 (74 + a) = -1 ∨ True) → a < e → ∀ c, c = 33 ∨ c = 40 → wp_X8_factor_b43 (wpG_X8_factor n).1 (wpG_X8_factor n).2.1 (wpG_X8_factor n).2.2.1 (wpG_X8_factor n).2.2.2.1 (wpG_X8_factor n).2.2.2.2.1 (wpG_X8_factor n).2.2.2.2.2 K c M := by
        intro _ hae c hc
        unfold wp_X8_factor_b43
        have eo : M 79 9 = nI o := h.2.2.2.2.2.2.2.1
        rw [eo, nI_1]
        have ex := pk_eq (x := nI o) (y := 5) o 5 (A := o = 5) (B := o ≠ 5) id id
        refine ⟨fun q => ?_, fun _ => hk _ (h.bad rfl)⟩
        have ho5 := ex.2 q
        have hg : PG e (a + 1) s (o + 1) d M0 (up (up M 79 9 (nI (o + 1))) 79 7 (((up M 79 9 (nI (o + 1))) 79 7) + 1)) := (h.opn rfl (by omega)).go hae
        have h7 := h.2.2.2.2.2.2.1
        refine ⟨fun _ => ihW (o + 1) (by omega) (by omega) hg (fun M1 h1 => ?_), fun _ => ihF (o + 1) (by omega) (by omega) hg (fun M1 h1 => ?_)⟩
        · have bad : ∀ M2, PLt M0 M2 → wp_X8_factor_b129 (wpG_X8_factor n).1 (wpG_X8_factor n).2.1 (wpG_X8_factor n).2.2.1 (wpG_X8_factor n).2.2.2.1 (wpG_X8_factor n).2.2.2.2.1 (wpG_X8_factor n).2.2.2.2.2 K 0 M2 := by
            intro M2 hp
            unfold wp_X8_factor_b129
            refine ⟨Or.inl rfl, fun _ => ?_, fun q => absurd up_same q⟩
            rintro _ rfl
            exact hk _ (Or.inl ⟨by rw [up_slot _ (by decide), up_slot _ (by decide), up_same], ((hp.up79 (by omega)).up79 (by omega)).up79 (by omega)⟩)
          refine qf_0 h1 (fun e0 hp => bad _ hp) (fun a' s' g1 l1 l2 => y_byte g1 (fun hae2 => ⟨fun _ => bad _ g1.1, fun _ => ?_⟩) (fun _ => ⟨fun _ => bad _ g1.1, fun q => absurd q (by decide)⟩))
          unfold wp_X8_factor_b129
          refine ⟨Or.inr rfl, fun q => absurd (up_same.symm.trans q) (by decide), fun _ => ?_⟩
          rintro _ rfl
          have g2 : PG e a' s' (o + 1) (d + 1) M0 (up M1 79 11 1) := by
            obtain ⟨p1, p2, p3, p4, p5, p6, p7, p8, p9, p10, w, w0, ws, hw⟩ := g1
            exact ⟨p1.up79 (by omega), p2, p3, by rw [up_slot _ (by decide)]; exact p4, p5, by rw [up_slot _ (by decide)]; exact p6, p7, by rw [up_slot _ (by decide)]; exact p8, p9, up_same, w, w0, ws, fun k hk => by rw [up_cell (by decide)]; exact hw k hk⟩
          have g3 := g2.go hae2
          have e9 := g3.2.2.2.2.2.2.2.1
          refine hk _ (Or.inr ⟨a' + 1, s', g3.opn (o2 := o) (by rw [e9, nI_pred]) ho, by omega, by omega⟩)
        · rcases h1 with ⟨e0, hp⟩ | ⟨a', s', g1, l1, l2⟩
          · refine y_adds0 e0 (hk _ (Or.inl ⟨by rw [up_slot _ (by decide)]; exact e0, hp.up79 (by omega)⟩))
          · refine y_adds (d2 := d + 1) g1 (by omega) (Or.inr (Or.inl ⟨by decide, by omega, rfl⟩)) (fun M2 g2 => ?_)
            have e9 := g2.2.2.2.2.2.2.2.1
            exact hk _ (Or.inr ⟨a', s' + 1, g2.opn (o2 := o) (by rw [e9, nI_pred]) ho, by omega, by omega⟩)
      refine y_byte h (fun hae => y_digit (fun g1 g2 => b1a (y_number h hae ⟨g1, g2⟩ hk)) (fun _ => b0a ⟨fun q => hb (Or.inr trivial) hae _ (Or.inl q), fun _ => ⟨fun q => hb (Or.inr trivial) hae _ (Or.inr q), fun _ => y_named h (Or.inr hae) hk⟩⟩)) (fun hea => y_digit (fun g1 _ => absurd g1 (by decide)) (fun _ => b0a ⟨fun q => absurd q (by decide), fun _ => ⟨fun q => absurd q (by decide), fun _ => y_named h (Or.inl rfl) hk⟩⟩))
    · intro o ho hn e a s d M0 M K h hk
      show wpb_X8_product (wpG_X8_factor n).1 (wpG_X8_factor n).2.1 (wpG_X8_factor n).2.2.1 (wpG_X8_factor n).2.2.2.1 (wpG_X8_factor n).2.2.2.2.1 (wpG_X8_factor n).2.2.2.2.2 M K
      unfold wpb_X8_product
      refine ihF o ho (by omega) h (fun M1 h1 => ?_)
      obtain ⟨k, hK⟩ := h1.qk
      refine loopW (σ := Mem) (L := fun m s => wp_X8_product_L4 (wpG_X8_factor n).1 (wpG_X8_factor n).2.1 (wpG_X8_factor n).2.2.1 (wpG_X8_factor n).2.2.2.1 (wpG_X8_factor n).2.2.2.2.1 (wpG_X8_factor n).2.2.2.2.2 K m s) (I := fun k M' => QK e a s o d k M0 M') ?_ (k := k) (s := M1) hK
      intro k M' m hI ih2
      show wp_X8_product_l4 (wpG_X8_factor n).1 (wpG_X8_factor n).2.1 (wpG_X8_factor n).2.2.1 (wpG_X8_factor n).2.2.2.1 (wpG_X8_factor n).2.2.2.2.1 (wpG_X8_factor n).2.2.2.2.2 K (wp_X8_product_L4 (wpG_X8_factor n).1 (wpG_X8_factor n).2.1 (wpG_X8_factor n).2.2.1 (wpG_X8_factor n).2.2.2.1 (wpG_X8_factor n).2.2.2.2.1 (wpG_X8_factor n).2.2.2.2.2 K m) M'
      unfold wp_X8_product_l4
      have hqf := hI.qf
      rcases hI with ⟨e0, hp⟩ | ⟨a', s', hg, q1, q2, q3⟩
      · exact ⟨fun _ => hk _ hqf, fun q => absurd e0 q⟩
      · refine ⟨fun q => absurd (hg.2.2.2.2.2.2.2.2.2.1.symm.trans q) (by decide), fun _ => y_byte hg (fun hae => ?_) (fun hea => ?_)⟩
        · exact ⟨(fun hq => y_byte hg (fun _ => by
            rw [hq, show (20000 : Int32) + 42 = nI 20042 from by decide]
            exact y_join (ihF o ho (by omega)) hg hae (by omega) (by omega) (by omega) (fun M1 e0 hp => ih2 0 M1 (by omega) (Or.inl ⟨e0, hp⟩)) (fun a2 s2 M1 g2 l1 l2 => ih2 (e - a2) M1 (by omega) (Or.inr ⟨a2, s2, g2, by omega, by omega, rfl⟩))) (fun hx => absurd hae (by omega))), fun _ => y_byte hg (fun _ => ⟨(fun hq => y_byte hg (fun _ => by
            rw [hq, show (20000 : Int32) + 47 = nI 20047 from by decide]
            exact y_join (ihF o ho (by omega)) hg hae (by omega) (by omega) (by omega) (fun M1 e0 hp => ih2 0 M1 (by omega) (Or.inl ⟨e0, hp⟩)) (fun a2 s2 M1 g2 l1 l2 => ih2 (e - a2) M1 (by omega) (Or.inr ⟨a2, s2, g2, by omega, by omega, rfl⟩))) (fun hx => absurd hae (by omega))), fun _ => y_byte hg (fun _ => ⟨fun _ => hk _ hqf, (fun hq => y_byte hg (fun _ => by
            rw [hq, show (20000 : Int32) + 37 = nI 20037 from by decide]
            exact y_join (ihF o ho (by omega)) hg hae (by omega) (by omega) (by omega) (fun M1 e0 hp => ih2 0 M1 (by omega) (Or.inl ⟨e0, hp⟩)) (fun a2 s2 M1 g2 l1 l2 => ih2 (e - a2) M1 (by omega) (Or.inr ⟨a2, s2, g2, by omega, by omega, rfl⟩))) (fun hx => absurd hae (by omega)))⟩) (fun hx => absurd hae (by omega))⟩) (fun hx => absurd hae (by omega))⟩
        · exact ⟨(fun hq => absurd hq (by decide)), fun _ => y_byte hg (fun hx => absurd hx (by omega)) (fun _ => ⟨(fun hq => absurd hq (by decide)), fun _ => y_byte hg (fun hx => absurd hx (by omega)) (fun _ => ⟨fun _ => hk _ hqf, (fun hq => absurd hq (by decide))⟩)⟩)⟩
    · intro o ho hn e a s d M0 M K h hk
      show wpb_X8_sum (wpG_X8_factor n).1 (wpG_X8_factor n).2.1 (wpG_X8_factor n).2.2.1 (wpG_X8_factor n).2.2.2.1 (wpG_X8_factor n).2.2.2.2.1 (wpG_X8_factor n).2.2.2.2.2 M K
      unfold wpb_X8_sum
      refine ihP o ho (by omega) h (fun M1 h1 => ?_)
      obtain ⟨k, hK⟩ := h1.qk
      refine loopW (σ := Mem) (L := fun m s => wp_X8_sum_L4 (wpG_X8_factor n).1 (wpG_X8_factor n).2.1 (wpG_X8_factor n).2.2.1 (wpG_X8_factor n).2.2.2.1 (wpG_X8_factor n).2.2.2.2.1 (wpG_X8_factor n).2.2.2.2.2 K m s) (I := fun k M' => QK e a s o d k M0 M') ?_ (k := k) (s := M1) hK
      intro k M' m hI ih2
      show wp_X8_sum_l4 (wpG_X8_factor n).1 (wpG_X8_factor n).2.1 (wpG_X8_factor n).2.2.1 (wpG_X8_factor n).2.2.2.1 (wpG_X8_factor n).2.2.2.2.1 (wpG_X8_factor n).2.2.2.2.2 K (wp_X8_sum_L4 (wpG_X8_factor n).1 (wpG_X8_factor n).2.1 (wpG_X8_factor n).2.2.1 (wpG_X8_factor n).2.2.2.1 (wpG_X8_factor n).2.2.2.2.1 (wpG_X8_factor n).2.2.2.2.2 K m) M'
      unfold wp_X8_sum_l4
      have hqf := hI.qf
      rcases hI with ⟨e0, hp⟩ | ⟨a', s', hg, q1, q2, q3⟩
      · exact ⟨fun _ => hk _ hqf, fun q => absurd e0 q⟩
      · refine ⟨fun q => absurd (hg.2.2.2.2.2.2.2.2.2.1.symm.trans q) (by decide), fun _ => y_byte hg (fun hae => ?_) (fun hea => ?_)⟩
        · exact ⟨(fun hq => y_byte hg (fun _ => by
            rw [hq, show (20000 : Int32) + 43 = nI 20043 from by decide]
            exact y_join (ihP o ho (by omega)) hg hae (by omega) (by omega) (by omega) (fun M1 e0 hp => ih2 0 M1 (by omega) (Or.inl ⟨e0, hp⟩)) (fun a2 s2 M1 g2 l1 l2 => ih2 (e - a2) M1 (by omega) (Or.inr ⟨a2, s2, g2, by omega, by omega, rfl⟩))) (fun hx => absurd hae (by omega))), fun _ => y_byte hg (fun _ => ⟨fun _ => hk _ hqf, (fun hq => y_byte hg (fun _ => by
            rw [hq, show (20000 : Int32) + 45 = nI 20045 from by decide]
            exact y_join (ihP o ho (by omega)) hg hae (by omega) (by omega) (by omega) (fun M1 e0 hp => ih2 0 M1 (by omega) (Or.inl ⟨e0, hp⟩)) (fun a2 s2 M1 g2 l1 l2 => ih2 (e - a2) M1 (by omega) (Or.inr ⟨a2, s2, g2, by omega, by omega, rfl⟩))) (fun hx => absurd hae (by omega)))⟩) (fun hx => absurd hae (by omega))⟩
        · exact ⟨(fun hq => absurd hq (by decide)), fun _ => y_byte hg (fun hx => absurd hx (by omega)) (fun _ => ⟨fun _ => hk _ hqf, (fun hq => absurd hq (by decide))⟩)⟩
    · intro o ho hn e a s d M0 M K h hk
      show wpb_X8_compared (wpG_X8_factor n).1 (wpG_X8_factor n).2.1 (wpG_X8_factor n).2.2.1 (wpG_X8_factor n).2.2.2.1 (wpG_X8_factor n).2.2.2.2.1 (wpG_X8_factor n).2.2.2.2.2 M K
      unfold wpb_X8_compared
      refine ihS o ho (by omega) h (fun M1 h1 => ?_)
      have no : ∀ c : Int32, c ≠ 60 → c ≠ 61 → c ≠ 62 → wp_X8_compared_b23 (wpG_X8_factor n).1 (wpG_X8_factor n).2.1 (wpG_X8_factor n).2.2.1 (wpG_X8_factor n).2.2.2.1 (wpG_X8_factor n).2.2.2.2.1 (wpG_X8_factor n).2.2.2.2.2 K c M1 := by
        intro c c1 c2 c3
        unfold wp_X8_compared_b23
        exact ⟨fun q => absurd q c1, fun _ => ⟨fun q => absurd q c2, fun _ => ⟨fun _ => hk _ h1, fun q => absurd q c3⟩⟩⟩
      have h1' := h1
      rcases h1 with ⟨e0, hp⟩ | ⟨a', s', hg, q1, q2⟩
      · exact ⟨fun _ => no _ (by decide) (by decide) (by decide), fun q => absurd e0 q⟩
      · refine ⟨fun q => absurd (hg.2.2.2.2.2.2.2.2.2.1.symm.trans q) (by decide), fun _ => y_byte hg (fun hae => ?_) (fun hea => no _ (by decide) (by decide) (by decide))⟩
        have yes : ∀ v : Nat, 20000 ≤ v → v ≠ 20033 → v < 2 ^ 30 → wp_X8_sum n (up M1 79 7 (M1 79 7 + 1)) (fun N => wp_X8_adds (nI v) N K) := fun v v1 v2 v3 =>
          y_join (ihS o ho (by omega)) hg hae v1 v2 v3 (fun M2 e0 hp => hk _ (Or.inl ⟨e0, hp⟩)) (fun a2 s2 M2 g2 l1 l2 => hk _ (Or.inr ⟨a2, s2, g2, by omega, by omega⟩))
        generalize M0 80 (74 + a') = c
        unfold wp_X8_compared_b23
        refine ⟨fun q => ?_, fun _ => ⟨fun q => ?_, fun _ => ⟨fun _ => hk _ h1', fun q => ?_⟩⟩⟩
        · rw [q, show (20000 : Int32) + 60 = nI 20060 from by decide]; exact yes 20060 (by omega) (by omega) (by omega)
        · rw [q, show (20000 : Int32) + 61 = nI 20061 from by decide]; exact yes 20061 (by omega) (by omega) (by omega)
        · rw [q, show (20000 : Int32) + 62 = nI 20062 from by decide]; exact yes 20062 (by omega) (by omega) (by omega)
    · intro o ho hn e a s d M0 M K h hk
      show wpb_X8_both (wpG_X8_factor n).1 (wpG_X8_factor n).2.1 (wpG_X8_factor n).2.2.1 (wpG_X8_factor n).2.2.2.1 (wpG_X8_factor n).2.2.2.2.1 (wpG_X8_factor n).2.2.2.2.2 M K
      unfold wpb_X8_both
      refine ihC o ho (by omega) h (fun M1 h1 => ?_)
      obtain ⟨k, hK⟩ := h1.qk
      refine loopW (σ := Mem) (L := fun m s => wp_X8_both_L4 (wpG_X8_factor n).1 (wpG_X8_factor n).2.1 (wpG_X8_factor n).2.2.1 (wpG_X8_factor n).2.2.2.1 (wpG_X8_factor n).2.2.2.2.1 (wpG_X8_factor n).2.2.2.2.2 K m s) (I := fun k M' => QK e a s o d k M0 M') ?_ (k := k) (s := M1) hK
      intro k M' m hI ih2
      show wp_X8_both_l4 (wpG_X8_factor n).1 (wpG_X8_factor n).2.1 (wpG_X8_factor n).2.2.1 (wpG_X8_factor n).2.2.2.1 (wpG_X8_factor n).2.2.2.2.1 (wpG_X8_factor n).2.2.2.2.2 K (wp_X8_both_L4 (wpG_X8_factor n).1 (wpG_X8_factor n).2.1 (wpG_X8_factor n).2.2.1 (wpG_X8_factor n).2.2.2.1 (wpG_X8_factor n).2.2.2.2.1 (wpG_X8_factor n).2.2.2.2.2 K m) M'
      unfold wp_X8_both_l4
      have hqf := hI.qf
      rcases hI with ⟨e0, hp⟩ | ⟨a', s', hg, q1, q2, q3⟩
      · exact ⟨fun _ => hk _ hqf, fun q => absurd e0 q⟩
      · refine ⟨fun q => absurd (hg.2.2.2.2.2.2.2.2.2.1.symm.trans q) (by decide), fun _ => y_byte hg (fun hae => ?_) (fun hea => ?_)⟩
        · exact ⟨fun _ => hk _ hqf, (fun hq => (by
            rw [show (20038 : Int32) = nI 20038 from by decide]
            exact y_join (ihC o ho (by omega)) hg hae (by omega) (by omega) (by omega) (fun M1 e0 hp => ih2 0 M1 (by omega) (Or.inl ⟨e0, hp⟩)) (fun a2 s2 M1 g2 l1 l2 => ih2 (e - a2) M1 (by omega) (Or.inr ⟨a2, s2, g2, by omega, by omega, rfl⟩))))⟩
        · exact ⟨fun _ => hk _ hqf, (fun hq => absurd hq (by decide))⟩
    · intro o ho hn e a s d M0 M K h hk
      show wpb_X8_whole (wpG_X8_factor n).1 (wpG_X8_factor n).2.1 (wpG_X8_factor n).2.2.1 (wpG_X8_factor n).2.2.2.1 (wpG_X8_factor n).2.2.2.2.1 (wpG_X8_factor n).2.2.2.2.2 M K
      unfold wpb_X8_whole
      refine ihB o ho (by omega) h (fun M1 h1 => ?_)
      obtain ⟨k, hK⟩ := h1.qk
      refine loopW (σ := Mem) (L := fun m s => wp_X8_whole_L4 (wpG_X8_factor n).1 (wpG_X8_factor n).2.1 (wpG_X8_factor n).2.2.1 (wpG_X8_factor n).2.2.2.1 (wpG_X8_factor n).2.2.2.2.1 (wpG_X8_factor n).2.2.2.2.2 K m s) (I := fun k M' => QK e a s o d k M0 M') ?_ (k := k) (s := M1) hK
      intro k M' m hI ih2
      show wp_X8_whole_l4 (wpG_X8_factor n).1 (wpG_X8_factor n).2.1 (wpG_X8_factor n).2.2.1 (wpG_X8_factor n).2.2.2.1 (wpG_X8_factor n).2.2.2.2.1 (wpG_X8_factor n).2.2.2.2.2 K (wp_X8_whole_L4 (wpG_X8_factor n).1 (wpG_X8_factor n).2.1 (wpG_X8_factor n).2.2.1 (wpG_X8_factor n).2.2.2.1 (wpG_X8_factor n).2.2.2.2.1 (wpG_X8_factor n).2.2.2.2.2 K m) M'
      unfold wp_X8_whole_l4
      have hqf := hI.qf
      rcases hI with ⟨e0, hp⟩ | ⟨a', s', hg, q1, q2, q3⟩
      · exact ⟨fun _ => hk _ hqf, fun q => absurd e0 q⟩
      · refine ⟨fun q => absurd (hg.2.2.2.2.2.2.2.2.2.1.symm.trans q) (by decide), fun _ => y_byte hg (fun hae => ?_) (fun hea => ?_)⟩
        · exact ⟨fun _ => hk _ hqf, (fun hq => (by
            rw [show (20124 : Int32) = nI 20124 from by decide]
            exact y_join (ihB o ho (by omega)) hg hae (by omega) (by omega) (by omega) (fun M1 e0 hp => ih2 0 M1 (by omega) (Or.inl ⟨e0, hp⟩)) (fun a2 s2 M1 g2 l1 l2 => ih2 (e - a2) M1 (by omega) (Or.inr ⟨a2, s2, g2, by omega, by omega, rfl⟩))))⟩
        · exact ⟨fun _ => hk _ hqf, (fun hq => absurd hq (by decide))⟩
