/-- a loop by a measure -/
theorem loopW {σ : Type} {L : Nat → σ → Prop} {I : Nat → σ → Prop} (h : ∀ k s n, I k s → (∀ j s', j < k → I j s' → L n s') → L (n + 1) s) {k : Nat} {s : σ} (hI : I k s) : ∃ n, L n s := by
  have H : ∀ k s n, k < n → I k s → L n s := by
    intro k
    induction k using Nat.strongRecOn with
    | ind k ih =>
      intro s n hn hI
      match n, hn with
      | n + 1, hn => exact h k s n hI (fun j s' hj hI' => ih j hj s' n (by omega) hI')
  exact ⟨k + 1, H k s (k + 1) (by omega) hI⟩
theorem loopN {L : Nat → Int32 → Mem → Prop} (N : Nat) (I : Nat → Mem → Prop) (h : ∀ i M n, i ≤ N → I i M → (∀ M', i < N → I (i + 1) M' → L n (nI (i + 1)) M') → L (n + 1) (nI i) M) (i : Nat) {M : Mem} (hi : i ≤ N) (hI : I i M) : ∃ n, L n (nI i) M :=
  loopW (σ := Nat × Mem) (L := fun n s => L n (nI s.1) s.2) (I := fun k s => s.1 ≤ N ∧ k = N - s.1 ∧ I s.1 s.2)
    (fun k s n hI ih => h s.1 s.2 n hI.1 hI.2.2 (fun M' hl hI' => ih (N - (s.1 + 1)) (s.1 + 1, M') (by omega) ⟨by show s.1 + 1 ≤ N; omega, rfl, hI'⟩)) (k := N - i) (s := (i, M)) ⟨hi, rfl, hI⟩
theorem loopNA {α : Type} {L : Nat → α → Int32 → Mem → Prop} (N : Nat) (I : Nat → α → Mem → Prop) (h : ∀ i a M n, i ≤ N → I i a M → (∀ a' M', i < N → I (i + 1) a' M' → L n a' (nI (i + 1)) M') → L (n + 1) a (nI i) M) (i : Nat) {a : α} {M : Mem} (hi : i ≤ N) (hI : I i a M) : ∃ n, L n a (nI i) M :=
  loopW (σ := Nat × α × Mem) (L := fun n s => L n s.2.1 (nI s.1) s.2.2) (I := fun k s => s.1 ≤ N ∧ k = N - s.1 ∧ I s.1 s.2.1 s.2.2)
    (fun k s n hI ih => h s.1 s.2.1 s.2.2 n hI.1 hI.2.2 (fun a' M' hl hI' => ih (N - (s.1 + 1)) (s.1 + 1, a', M') (by omega) ⟨by show s.1 + 1 ≤ N; omega, rfl, hI'⟩)) (k := N - i) (s := (i, a, M)) ⟨hi, rfl, hI⟩
/-- a loop that goes down to 0 -/
theorem loopDA {α : Type} {L : Nat → α → Int32 → Mem → Prop} (I : Nat → α → Mem → Prop) (h : ∀ i a M n, I i a M → (∀ j a' M', i = j + 1 → I j a' M' → L n a' (nI j) M') → L (n + 1) a (nI i) M) (i : Nat) {a : α} {M : Mem} (hI : I i a M) : ∃ n, L n a (nI i) M :=
  loopW (σ := Nat × α × Mem) (L := fun n s => L n s.2.1 (nI s.1) s.2.2) (I := fun k s => k = s.1 ∧ I s.1 s.2.1 s.2.2)
    (fun k s n hI ih => h s.1 s.2.1 s.2.2 n hI.2 (fun j a' M' hl hI' => ih j (j, a', M') (by omega) ⟨rfl, hI'⟩)) (k := i) (s := (i, a, M)) ⟨rfl, hI⟩
theorem le_of_nI {a b : Nat} (h : nI a ≤ nI b) (ha : a < 2 ^ 30) (hb : b < 2 ^ 30) : a ≤ b := (nI_leI (by omega) (by omega)).mp h
theorem lt_of_nI {a b : Nat} (h : ¬ nI a ≤ nI b) (ha : a < 2 ^ 30) (hb : b < 2 ^ 30) : b < a := by
  rcases Nat.lt_or_ge b a with g | g
  · exact g
  · exact absurd (nI_le g (by omega)) h
theorem nI_m1 {n : Nat} (hn : n < 2 ^ 30) : (nI n - 1).toInt = (n : Int) - 1 := pk_sub_toInt (b := 1) hn (by decide)
theorem nI_dec (i : Nat) : nI (i + 1) + Int32.ofInt (-1) = nI i := by rw [← nI_1 i, Int32.add_assoc]; exact Int32.add_zero _
/-- rows that may change: the rest stays -/
def St (S : Nat → Bool) (M M1 : Mem) : Prop := ∀ b, S b = false → M1 b = M b
theorem St.rf {S : Nat → Bool} {M : Mem} : St S M M := fun _ _ => rfl
theorem St.tr {S : Nat → Bool} {M M1 M2 : Mem} (h : St S M M1) (h2 : St S M1 M2) : St S M M2 := fun b hb => (h2 b hb).trans (h b hb)
theorem St.up {S : Nat → Bool} {M M1 : Mem} {i k : Nat} {x : Int32} (h : St S M M1) (hp : S i = true) : St S M (up M1 i k x) := by
  intro b hb
  rw [up_o b (fun e => by rw [e, hp] at hb; cases hb)]
  exact h b hb
theorem St.upA {S : Nat → Bool} {M M1 : Mem} {i : Nat} {f : Nat → Int32} (h : St S M M1) (hp : S i = true) : St S M (upA M1 i f) := by
  intro b hb
  rw [upA_o b (fun e => by rw [e, hp] at hb; cases hb)]
  exact h b hb
theorem St.w {S S2 : Nat → Bool} {M M1 : Mem} (h : St S M M1) (hs : ∀ b, S2 b = false → S b = false) : St S2 M M1 := fun b hb => h b (hs b hb)
/-- isWithin, in -/
theorem w7 {v a b : Int32} {M : Mem} {K : Int32 → Mem → Prop} (ia ib : Int) (ha : a.toInt = ia) (hb : b.toInt = ib) (h1 : ia ≤ v.toInt → v.toInt ≤ ib → K 1 M) (h0 : ¬ (ia ≤ v.toInt ∧ v.toInt ≤ ib) → K 0 M) : wp_X7_isWithin v a b M K := by
  unfold wp_X7_isWithin
  refine ⟨fun q => h0 (fun g => ?_), fun q => ⟨fun q2 => h0 (fun g => ?_), fun q2 => h1 ?_ ?_⟩⟩
  · have := ti_lt rfl ha q; omega
  · have := ti_lt hb rfl q2; omega
  · have := ti_nlt rfl ha q; omega
  · have := ti_nlt hb rfl q2; omega
theorem w8 {v a b : Int32} {M : Mem} {K : Int32 → Mem → Prop} (ia ib : Int) (ha : a.toInt = ia) (hb : b.toInt = ib) (h1 : ia ≤ v.toInt → v.toInt ≤ ib → K 1 M) (h0 : ¬ (ia ≤ v.toInt ∧ v.toInt ≤ ib) → K 0 M) : wp_X8_in v a b M K := by
  unfold wp_X8_in
  refine ⟨fun q => h0 (fun g => ?_), fun q => ⟨fun q2 => h0 (fun g => ?_), fun q2 => h1 ?_ ?_⟩⟩
  · have := ti_lt rfl ha q; omega
  · have := ti_lt hb rfl q2; omega
  · have := ti_nlt rfl ha q; omega
  · have := ti_nlt hb rfl q2; omega
/-- an answer 0 or 1 and then a branch on it -/
theorem br0 {P : Prop} {A B : Prop} (h : A) : ((0 : Int32) = 0 → A) ∧ (¬ (0 : Int32) = 0 → B) := ⟨fun _ => h, fun g => absurd rfl g⟩
theorem b0a {A B : Prop} (h : A) : ((0 : Int32) = 0 → A) ∧ (¬ (0 : Int32) = 0 → B) := ⟨fun _ => h, fun g => absurd rfl g⟩
theorem b0b {A B : Prop} (h : A) : (¬ (0 : Int32) = 0 → B) ∧ ((0 : Int32) = 0 → A) := ⟨fun g => absurd rfl g, fun _ => h⟩
theorem b1a {A B : Prop} (h : B) : ((1 : Int32) = 0 → A) ∧ (¬ (1 : Int32) = 0 → B) := ⟨fun g => absurd g (by decide), fun _ => h⟩
theorem b1b {A B : Prop} (h : B) : (¬ (1 : Int32) = 0 → B) ∧ ((1 : Int32) = 0 → A) := ⟨fun _ => h, fun g => absurd g (by decide)⟩
theorem w7z {v a b : Int32} {M : Mem} {A B : Int32 → Mem → Prop} (ia ib : Int) (ha : a.toInt = ia) (hb : b.toInt = ib) (h1 : ia ≤ v.toInt → v.toInt ≤ ib → B 1 M) (h0 : ¬ (ia ≤ v.toInt ∧ v.toInt ≤ ib) → A 0 M) : wp_X7_isWithin v a b M (fun r N => (r = 0 → A r N) ∧ (¬ r = 0 → B r N)) := w7 ia ib ha hb (fun g1 g2 => b1a (h1 g1 g2)) (fun g => b0a (h0 g))
theorem w7n {v a b : Int32} {M : Mem} {A B : Int32 → Mem → Prop} (ia ib : Int) (ha : a.toInt = ia) (hb : b.toInt = ib) (h1 : ia ≤ v.toInt → v.toInt ≤ ib → B 1 M) (h0 : ¬ (ia ≤ v.toInt ∧ v.toInt ≤ ib) → A 0 M) : wp_X7_isWithin v a b M (fun r N => (¬ r = 0 → B r N) ∧ (r = 0 → A r N)) := w7 ia ib ha hb (fun g1 g2 => b1b (h1 g1 g2)) (fun g => b0b (h0 g))
theorem w8z {v a b : Int32} {M : Mem} {A B : Int32 → Mem → Prop} (ia ib : Int) (ha : a.toInt = ia) (hb : b.toInt = ib) (h1 : ia ≤ v.toInt → v.toInt ≤ ib → B 1 M) (h0 : ¬ (ia ≤ v.toInt ∧ v.toInt ≤ ib) → A 0 M) : wp_X8_in v a b M (fun r N => (r = 0 → A r N) ∧ (¬ r = 0 → B r N)) := w8 ia ib ha hb (fun g1 g2 => b1a (h1 g1 g2)) (fun g => b0a (h0 g))
theorem w8n {v a b : Int32} {M : Mem} {A B : Int32 → Mem → Prop} (ia ib : Int) (ha : a.toInt = ia) (hb : b.toInt = ib) (h1 : ia ≤ v.toInt → v.toInt ≤ ib → B 1 M) (h0 : ¬ (ia ≤ v.toInt ∧ v.toInt ≤ ib) → A 0 M) : wp_X8_in v a b M (fun r N => (¬ r = 0 → B r N) ∧ (r = 0 → A r N)) := w8 ia ib ha hb (fun g1 g2 => b1b (h1 g1 g2)) (fun g => b0b (h0 g))
/-- an ERROR -/
theorem e7 {v : Int32} {M : Mem} {K : Int32 → Mem → Prop} (i : Nat) (hi : i < 6) (hv : (-1000000000) - v = nI i) (h : K v (up M 78 i (M 78 i + 1))) : wp_X7_refuse v M K := by
  unfold wp_X7_refuse
  rw [hv, nI_clamp (by omega)]
  exact ⟨vp_in_nI hi (by decide), vp_in_nI hi (by decide), h⟩
theorem e8 {v : Int32} {M : Mem} {K : Int32 → Mem → Prop} (i : Nat) (hi : i < 6) (hv : (-1000000000) - v = nI i) (h : K v (up M 83 i (M 83 i + 1))) : wp_X8_errs v M K := by
  unfold wp_X8_errs
  rw [hv, nI_clamp (by omega)]
  exact ⟨vp_in_nI hi (by decide), vp_in_nI hi (by decide), h⟩
/-- a number below n -/
theorem nat_of {x : Int32} (n : Nat) (h0 : 0 ≤ x.toInt) (h1 : x.toInt ≤ n) (hn : n < 2 ^ 31) : ∃ j : Nat, j ≤ n ∧ x = nI j := nI_oft h0 h1 hn
