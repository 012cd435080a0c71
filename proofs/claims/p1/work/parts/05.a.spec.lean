def Z0 (M : Mem) : Prop := M 12 3 = 0 ∧ M 12 4 = 0 ∧ M 12 5 = 1 ∧ M 12 6 = 0 ∧ M 12 7 = 0 ∧ M 12 8 = 0 ∧ M 1 5 = 0 ∧ M 1 6 = 0 ∧ M 1 7 = 1 ∧ M 67 1 = 0 ∧ M 0 7 = 0 ∧ M 70 1 = 0 ∧ M 72 1 = 0 ∧ M 74 1 = 0 ∧ M 76 1 = 0 ∧ M 2 4 = 0 ∧ M 2 5 = 0 ∧ M 7 4 = 1 ∧ M 7 5 = 0 ∧ M 78 1 = 0 ∧ M 78 2 = 0 ∧ M 78 3 = 0 ∧ M 78 4 = 0 ∧ M 78 5 = 0
def Z1 (M : Mem) : Prop := M 80 0 = 0 ∧ M 80 1 = 1 ∧ M 80 2 = 0 ∧ M 80 3 = 0 ∧ M 80 4 = 0 ∧ M 80 5 = (-1) ∧ M 80 6 = (-1) ∧ M 80 7 = 0 ∧ M 80 8 = 1 ∧ M 80 9 = 0 ∧ M 80 10 = 0 ∧ M 79 3 = 0 ∧ M 79 4 = 0 ∧ M 79 20 = 0 ∧ M 87 0 = 0 ∧ M 87 1 = 0 ∧ M 87 2 = 0 ∧ M 87 3 = 0 ∧ M 83 1 = 0 ∧ M 83 2 = 0 ∧ M 83 3 = 0 ∧ M 83 4 = 0 ∧ M 83 5 = 0
def sp_set (what v : Int32) : Int32 := if ((0 ≤ what.toInt ∧ what.toInt ≤ 1) ∧ (0 ≤ v.toInt ∧ v.toInt ≤ 9)) ∨ ((2 ≤ what.toInt ∧ what.toInt ≤ 3) ∧ (0 ≤ v.toInt ∧ v.toInt ≤ 99999)) then (if what.toInt = 1 then 1 else 0) else (-1000000001)
def sp_inArea (a : Int32) : Int32 := if (0 ≤ a.toInt ∧ a.toInt ≤ 9) then 0 else (-1000000001)
def sp_quarrel (km a ed o : Int32) : Int32 := if (0 ≤ km.toInt ∧ km.toInt ≤ 69) ∧ (0 ≤ a.toInt ∧ a.toInt ≤ 9) ∧ (0 ≤ ed.toInt ∧ ed.toInt ≤ 99) ∧ o.toInt = -1 then 0 else (-1000000001)
def sp_ofQuarrel (q what : Int32) : Int32 := (-1000000001)
def sp_change (q what v : Int32) : Int32 := (-1000000001)
def sp_become (q km : Int32) : Int32 := (-1000000001)
def sp_as (q kind : Int32) : Int32 := (-1000000001)
def sp_text (u : Int32) : Int32 := if (0 ≤ u.toInt ∧ u.toInt ≤ 1) then (-10) else (-1000000001)
def sp_law (u a b g : Int32) : Int32 := if (0 ≤ u.toInt ∧ u.toInt ≤ 1) then (if u.toInt = 0 then 20 else if 9 - a / 11 < 0 then 0 else if 99 < 9 - a / 11 then 99 else 9 - a / 11) else (-1000000001)
def sp_days (n : Int32) : Int32 := if (1 ≤ n.toInt ∧ n.toInt ≤ 60) then 0 else (-1000000001)
def sp_loose (n : Int32) : Int32 := if (1 ≤ n.toInt ∧ n.toInt ≤ 40) then 0 else (-1000000001)
def sp_then (n q what : Int32) : Int32 := (-1000000001)
def sp_when (q : Int32) : Int32 := (-1000000001)
def sp_ended (n : Int32) : Int32 := if (0 ≤ n.toInt ∧ n.toInt ≤ 60) then 0 else (-1000000001)
def sp_start (n what : Int32) : Int32 := if (0 ≤ n.toInt ∧ n.toInt ≤ 60) ∧ (0 ≤ what.toInt ∧ what.toInt ≤ 1) then 0 else (-1000000001)
def sp_pace (n what : Int32) : Int32 := if (0 ≤ n.toInt ∧ n.toInt ≤ 60) ∧ (0 ≤ what.toInt ∧ what.toInt ≤ 1) then 0 else (-1000000001)
def sp_hand (q n : Int32) : Int32 := (-1000000001)
def sp_first (n what : Int32) : Int32 := if (0 ≤ n.toInt ∧ n.toInt ≤ 60) ∧ (0 ≤ what.toInt ∧ what.toInt ≤ 1) then (-1000000002) else (-1000000001)
def sp_sparks (sh what : Int32) : Int32 := if (0 ≤ sh.toInt ∧ sh.toInt ≤ 3) ∧ (0 ≤ what.toInt ∧ what.toInt ≤ 1) then (-1000000002) else (-1000000001)
def sp_last (what : Int32) : Int32 := if (0 ≤ what.toInt ∧ what.toInt ≤ 1) then (-1000000002) else (-1000000001)
def sp_sharp (q n : Int32) : Int32 := (-1000000001)
def sp_off (n : Int32) : Int32 := if (0 ≤ n.toInt ∧ n.toInt ≤ 60) then 0 else (-1000000001)
def sp_chain (q : Int32) : Int32 := (-1000000001)
def sp_fee (n : Int32) : Int32 := if (0 ≤ n.toInt ∧ n.toInt ≤ 60) then 0 else (-1000000001)
def sp_free : Int32 := 0
def sp_odds (q n part : Int32) : Int32 := (-1000000001)
def sp_seed (v : Int32) : Int32 := 1
def sp_voice (q act x : Int32) : Int32 := (-1000000001)
def sp_trace (i : Int32) : Int32 := (-1000000002)
def sp_sheet (sh bits n : Int32) : Int32 := if (0 ≤ sh.toInt ∧ sh.toInt ≤ 3) ∧ (bits.toInt = 0 ∨ bits.toInt = 8 ∨ bits.toInt = 16 ∨ bits.toInt = 32) then (if bits.toInt ≠ 0 ∧ n.toInt < 0 then (-1000000003) else if bits.toInt ≠ 0 ∧ 40 < n.toInt then (-1000000001) else 1) else (-1000000001)
def sp_put (sh i v : Int32) : Int32 := if (0 ≤ sh.toInt ∧ sh.toInt ≤ 3) then (-1000000002) else (-1000000001)
def sp_move (sh i o j n : Int32) : Int32 := if (0 ≤ sh.toInt ∧ sh.toInt ≤ 3) ∧ (0 ≤ o.toInt ∧ o.toInt ≤ 3) then (-1000000002) else (-1000000001)
def sp_edges (sh : Int32) : Int32 := if (0 ≤ sh.toInt ∧ sh.toInt ≤ 3) then (-1000000002) else (-1000000001)
def sp_judge (sh : Int32) : Int32 := if (0 ≤ sh.toInt ∧ sh.toInt ≤ 3) then (-1000000002) else (-1000000001)
def sp_image : Int32 := 1
def sp_restore : Int32 := (-1000000002)
def sp_tell (v : Int32) : Int32 := 1
def sp_check : Int32 := 0
def sp_count (what : Int32) : Int32 := if what.toInt = 3 ∨ what.toInt = 11 then 1 else if 0 ≤ what.toInt ∧ what.toInt ≤ 10 then 0 else (-1000000001)
def sp_told (i : Int32) : Int32 := if (1 ≤ i.toInt ∧ i.toInt ≤ 5) then 0 else (-1000000001)
def sp_feed (w : Int64) (n : Int32) : Int32 := if (1 ≤ n.toInt ∧ n.toInt ≤ 8) then n else (-1000000001)
theorem is_1_5 {x : Int32} (h : 1 ≤ x.toInt ∧ x.toInt ≤ 5) : x = 1 ∨ x = 2 ∨ x = 3 ∨ x = 4 ∨ x = 5 := by
  rcases (by omega : x.toInt = 1 ∨ x.toInt = 2 ∨ x.toInt = 3 ∨ x.toInt = 4 ∨ x.toInt = 5) with e | e | e | e | e
  · exact Or.inl (Int32.toInt_inj.mp (e.trans (by decide)))
  · exact Or.inr (Or.inl (Int32.toInt_inj.mp (e.trans (by decide))))
  · exact Or.inr (Or.inr (Or.inl (Int32.toInt_inj.mp (e.trans (by decide)))))
  · exact Or.inr (Or.inr (Or.inr (Or.inl (Int32.toInt_inj.mp (e.trans (by decide))))))
  · exact Or.inr (Or.inr (Or.inr (Or.inr (Int32.toInt_inj.mp (e.trans (by decide))))))
theorem is_0_3 {x : Int32} (h : 0 ≤ x.toInt ∧ x.toInt ≤ 3) : x = 0 ∨ x = 1 ∨ x = 2 ∨ x = 3 := by
  rcases (by omega : x.toInt = 0 ∨ x.toInt = 1 ∨ x.toInt = 2 ∨ x.toInt = 3) with e | e | e | e
  · exact Or.inl (Int32.toInt_inj.mp (e.trans (by decide)))
  · exact Or.inr (Or.inl (Int32.toInt_inj.mp (e.trans (by decide))))
  · exact Or.inr (Or.inr (Or.inl (Int32.toInt_inj.mp (e.trans (by decide)))))
  · exact Or.inr (Or.inr (Or.inr (Int32.toInt_inj.mp (e.trans (by decide)))))
theorem nI_ti {j n : Nat} (h : j ≤ n) (hn : n < 2 ^ 31) : (nI j).toInt = (j : Int) := nI_toInt (by omega)
theorem clamp1 (v : Int32) : (if 0 < (if v < 99 then v else 99) then (if v < 99 then v else 99) else 0) = (if v < 0 then 0 else if 99 < v then 99 else v) := by
  have e0 : (0 : Int32).toInt = 0 := by decide
  have e9 : (99 : Int32).toInt = 99 := by decide
  by_cases h1 : v < 99
  · have q1 := ti_lt (a := v.toInt) (b := 99) rfl e9 h1
    have n9 : ¬ (99 : Int32) < v := fun h => by have := ti_lt (a := 99) (b := v.toInt) e9 rfl h; omega
    simp only [if_pos h1, if_neg n9]
    by_cases h2 : v < 0
    · have q2 := ti_lt (a := v.toInt) (b := 0) rfl e0 h2
      have n0 : ¬ (0 : Int32) < v := fun h => by have := ti_lt (a := 0) (b := v.toInt) e0 rfl h; omega
      simp only [if_pos h2, if_neg n0]
    · have q2 := ti_nlt (a := v.toInt) (b := 0) rfl e0 h2
      simp only [if_neg h2]
      by_cases h3 : 0 < v
      · simp only [if_pos h3]
      · have q3 := ti_nlt (a := 0) (b := v.toInt) e0 rfl h3
        simp only [if_neg h3]
        exact Int32.toInt_inj.mp (by omega)
  · have q1 := ti_nlt (a := v.toInt) (b := 99) rfl e9 h1
    have n0 : ¬ v < 0 := fun h => by have := ti_lt (a := v.toInt) (b := 0) rfl e0 h; omega
    have p0 : (0 : Int32) < 99 := by decide
    simp only [if_neg h1, if_pos p0, if_neg n0]
    by_cases h3 : 99 < v
    · simp only [if_pos h3]
    · have q3 := ti_nlt (a := 99) (b := v.toInt) e9 rfl h3
      simp only [if_neg h3]
      exact Int32.toInt_inj.mp (by omega)
def clampI (v : Int32) : Int32 := if v < 0 then 0 else if 99 < v then 99 else v
theorem is_0_1 {x : Int32} (h : 0 ≤ x.toInt ∧ x.toInt ≤ 1) : x = 0 ∨ x = 1 := by
  rcases (by omega : x.toInt = 0 ∨ x.toInt = 1) with e | e
  · exact Or.inl (Int32.toInt_inj.mp (e.trans (by decide)))
  · exact Or.inr (Int32.toInt_inj.mp (e.trans (by decide)))
theorem back0 {M M1 M2 M3 : Mem} (h1 : sm (fun b k => b == 82 && decide (k < 244)) M M1) (h1v : ∀ q, q < 244 → M1 82 q = M 80 q) (h2 : sm (fun b _ => b == 80) M1 M2) (h4 : ∀ q, 244 ≤ q → M2 80 q = M1 80 q) (h3 : sm (fun b k => b == 80 && decide (k < 244)) M2 M3) (h3v : ∀ q, q < 244 → M3 80 q = M2 82 q) : sm (fun b _ => b == 82) M M3 := by
  intro b k hb
  have hb2 : b ≠ 82 := by intro e; subst e; simp at hb
  by_cases e : b = 80
  · subst e
    rcases Nat.lt_or_ge k 244 with hk | hk
    · rw [h3v k hk, h2 82 k rfl, h1v k hk]
    · rw [h3 80 k (by simp; omega), h4 k hk, h1 80 k rfl]
  · rw [h3 b k (by simp [e]), h2 b k (by simp [e]), h1 b k (by simp [hb2])]
theorem is_2_3 {x : Int32} (h : 2 ≤ x.toInt ∧ x.toInt ≤ 3) : x = 2 ∨ x = 3 := by
  rcases (by omega : x.toInt = 2 ∨ x.toInt = 3) with e | e
  · exact Or.inl (Int32.toInt_inj.mp (e.trans (by decide)))
  · exact Or.inr (Int32.toInt_inj.mp (e.trans (by decide)))
