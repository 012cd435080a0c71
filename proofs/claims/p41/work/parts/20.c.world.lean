def ad0 (q1 : Nat) (q3 : Nat) (u2 : Nat → Nat) (u4 : Nat → Nat) (t9 : Nat) (i : Nat) : Nat := [q1, (u2 0), (u2 22), (u2 1), (u2 2), (u2 3), (u2 4), (u2 23), (u2 5), (u2 6), (u2 7), (u2 8), (u2 9), (u2 10), (u2 11), (u2 12), (u2 13), (u2 14), (u2 15), (u2 16), (u2 17), (u2 18), (u2 19), (u2 20), (u2 21), (u2 24), (u2 46), (u2 25), (u2 26), (u2 27), (u2 28), (u2 47), (u2 29), (u2 30), (u2 31), (u2 32), (u2 33), (u2 34), (u2 35), (u2 36), (u2 37), (u2 38), (u2 39), (u2 40), (u2 41), (u2 42), (u2 43), (u2 44), (u2 45), (u2 48), (u2 49), (u2 50), (u2 51), (u2 52), (u2 53), (u2 54), (u2 55), (u2 56), (u2 57), (u2 58), (u2 59), (u2 60), (u2 61), (u2 62), (u2 63), (u2 64), (u2 65), (u2 66), (u2 67), (u2 68), (u2 70), (u2 71), (u2 72), (u2 73), (u2 74), (u2 75), (u2 76), (u2 77), (u2 69), q3, (u4 0), (u4 1), (u4 2), (u4 3), (u4 4), (u4 5), (u4 6), (u4 7), (u4 8), (u4 9), (u4 10), (u4 11), t9].getD i 0
def M0 : Mem := fun i => match i with
  | 12 => fun k => match k with
    | 5 => 1
    | _ => 0
  | 36 => fun k => match k with
    | 5 => 1
    | _ => 0
  | 49 => fun k => match k with
    | 5 => 1
    | _ => 0
  | 1 => fun k => match k with
    | 7 => 1
    | _ => 0
  | 25 => fun k => match k with
    | 7 => 1
    | _ => 0
  | 7 => fun k => match k with
    | 4 => 1
    | _ => 0
  | 31 => fun k => match k with
    | 4 => 1
    | _ => 0
  | 80 => (upd (upd (upd (upd (fun _ => 0) 1 1) 8 1) 5 (-1)) 6 (-1))
  | _ => fun _ => 0
theorem qcell {cA : ClassId} {n : Nat} {f g : Nat → Option Nat} (h : ∀ j, j < n → f j = g j) : vp_cell cA (n, .inr (.inr (.inr (.inr f)))) = vp_cell cA (n, .inr (.inr (.inr (.inr g)))) := by
  rw [vp_cell_q, vp_cell_q]
  unfold arrV
  congr 1
  apply Array.ext
  · simp
  · intro i h1 h2
    simp only [Array.getElem_ofFn]
    rw [h i (by simpa using h1)]
def w0L (y : wY) (q1 : Nat) (q3 : Nat) (u2 : Nat → Nat) (u4 : Nat → Nat) : va_W := [(q1, .inr (7, [.ref (u2 0), .ref (u2 24), .ref (u2 48), .ref (u2 59), .ref (u2 66), .ref (u2 68), .ref (u2 69), .int 0])), ((u2 0), .inr (6, [.ref (u2 22), .ref (u2 23), .ref (u2 9), .ref (u2 20), .ref (u2 21), .int 0, .int 0, .int 1])), ((u2 1), .inl (y.1, 50, .inl (fun _ => 0))), ((u2 2), .inl (y.1, 50, .inl (fun _ => 0))), ((u2 3), .inl (y.1, 50, .inl (fun _ => 0))), ((u2 4), .inl (y.1, 50, .inl (fun _ => 0))), ((u2 5), .inl (y.1, 50, .inl (fun _ => 0))), ((u2 6), .inl (y.1, 50, .inl (fun _ => 0))), ((u2 7), .inl (y.1, 50, .inl (fun _ => 0))), ((u2 8), .inl (y.1, 50, .inl (fun _ => 0))), ((u2 9), .inr (0, [.ref (u2 22), .ref (u2 23), .ref (u2 10), .int 0, .int 0, .int 1, .int 0, .int 0, .int 0])), ((u2 10), .inl (y.2.1, 9, .inr (.inr (.inr (.inr (va_up (va_up (va_up (va_up (va_up (va_up (va_up (va_up (va_up (fun _ => none) 0 (some (u2 11))) 1 (some (u2 12))) 2 (some (u2 13))) 3 (some (u2 14))) 4 (some (u2 15))) 5 (some (u2 16))) 6 (some (u2 17))) 7 (some (u2 18))) 8 (some (u2 19)))))))), ((u2 11), .inr (1, [.int 0, .int 0, .int 0, .int 0, .int 0, .int 0, .int 0])), ((u2 12), .inr (1, [.int 0, .int 0, .int 0, .int 0, .int 0, .int 0, .int 0])), ((u2 13), .inr (1, [.int 0, .int 0, .int 0, .int 0, .int 0, .int 0, .int 0])), ((u2 14), .inr (1, [.int 0, .int 0, .int 0, .int 0, .int 0, .int 0, .int 0])), ((u2 15), .inr (1, [.int 0, .int 0, .int 0, .int 0, .int 0, .int 0, .int 0])), ((u2 16), .inr (1, [.int 0, .int 0, .int 0, .int 0, .int 0, .int 0, .int 0])), ((u2 17), .inr (1, [.int 0, .int 0, .int 0, .int 0, .int 0, .int 0, .int 0])), ((u2 18), .inr (1, [.int 0, .int 0, .int 0, .int 0, .int 0, .int 0, .int 0])), ((u2 19), .inr (1, [.int 0, .int 0, .int 0, .int 0, .int 0, .int 0, .int 0])), ((u2 20), .inl (y.1, 50, .inl (fun _ => 0))), ((u2 21), .inl (y.1, 20, .inl (fun _ => 0))), ((u2 22), .inr (4, [.ref (u2 1), .ref (u2 2), .ref (u2 3), .ref (u2 4), .int 0, .int 0])), ((u2 23), .inr (4, [.ref (u2 5), .ref (u2 6), .ref (u2 7), .ref (u2 8), .int 1, .int 0])), ((u2 24), .inr (6, [.ref (u2 46), .ref (u2 47), .ref (u2 33), .ref (u2 44), .ref (u2 45), .int 0, .int 0, .int 1])), ((u2 25), .inl (y.1, 50, .inl (fun _ => 0))), ((u2 26), .inl (y.1, 50, .inl (fun _ => 0))), ((u2 27), .inl (y.1, 50, .inl (fun _ => 0))), ((u2 28), .inl (y.1, 50, .inl (fun _ => 0))), ((u2 29), .inl (y.1, 50, .inl (fun _ => 0))), ((u2 30), .inl (y.1, 50, .inl (fun _ => 0))), ((u2 31), .inl (y.1, 50, .inl (fun _ => 0))), ((u2 32), .inl (y.1, 50, .inl (fun _ => 0))), ((u2 33), .inr (0, [.ref (u2 46), .ref (u2 47), .ref (u2 34), .int 0, .int 0, .int 1, .int 0, .int 0, .int 0])), ((u2 34), .inl (y.2.1, 9, .inr (.inr (.inr (.inr (va_up (va_up (va_up (va_up (va_up (va_up (va_up (va_up (va_up (fun _ => none) 0 (some (u2 35))) 1 (some (u2 36))) 2 (some (u2 37))) 3 (some (u2 38))) 4 (some (u2 39))) 5 (some (u2 40))) 6 (some (u2 41))) 7 (some (u2 42))) 8 (some (u2 43)))))))), ((u2 35), .inr (1, [.int 0, .int 0, .int 0, .int 0, .int 0, .int 0, .int 0])), ((u2 36), .inr (1, [.int 0, .int 0, .int 0, .int 0, .int 0, .int 0, .int 0])), ((u2 37), .inr (1, [.int 0, .int 0, .int 0, .int 0, .int 0, .int 0, .int 0])), ((u2 38), .inr (1, [.int 0, .int 0, .int 0, .int 0, .int 0, .int 0, .int 0])), ((u2 39), .inr (1, [.int 0, .int 0, .int 0, .int 0, .int 0, .int 0, .int 0])), ((u2 40), .inr (1, [.int 0, .int 0, .int 0, .int 0, .int 0, .int 0, .int 0])), ((u2 41), .inr (1, [.int 0, .int 0, .int 0, .int 0, .int 0, .int 0, .int 0])), ((u2 42), .inr (1, [.int 0, .int 0, .int 0, .int 0, .int 0, .int 0, .int 0])), ((u2 43), .inr (1, [.int 0, .int 0, .int 0, .int 0, .int 0, .int 0, .int 0])), ((u2 44), .inl (y.1, 50, .inl (fun _ => 0))), ((u2 45), .inl (y.1, 20, .inl (fun _ => 0))), ((u2 46), .inr (4, [.ref (u2 25), .ref (u2 26), .ref (u2 27), .ref (u2 28), .int 0, .int 0])), ((u2 47), .inr (4, [.ref (u2 29), .ref (u2 30), .ref (u2 31), .ref (u2 32), .int 1, .int 0])), ((u2 48), .inr (0, [.ref (u2 22), .ref (u2 23), .ref (u2 49), .int 0, .int 0, .int 1, .int 0, .int 0, .int 0])), ((u2 49), .inl (y.2.1, 9, .inr (.inr (.inr (.inr (va_up (va_up (va_up (va_up (va_up (va_up (va_up (va_up (va_up (fun _ => none) 0 (some (u2 50))) 1 (some (u2 51))) 2 (some (u2 52))) 3 (some (u2 53))) 4 (some (u2 54))) 5 (some (u2 55))) 6 (some (u2 56))) 7 (some (u2 57))) 8 (some (u2 58)))))))), ((u2 50), .inr (1, [.int 0, .int 0, .int 0, .int 0, .int 0, .int 0, .int 0])), ((u2 51), .inr (1, [.int 0, .int 0, .int 0, .int 0, .int 0, .int 0, .int 0])), ((u2 52), .inr (1, [.int 0, .int 0, .int 0, .int 0, .int 0, .int 0, .int 0])), ((u2 53), .inr (1, [.int 0, .int 0, .int 0, .int 0, .int 0, .int 0, .int 0])), ((u2 54), .inr (1, [.int 0, .int 0, .int 0, .int 0, .int 0, .int 0, .int 0])), ((u2 55), .inr (1, [.int 0, .int 0, .int 0, .int 0, .int 0, .int 0, .int 0])), ((u2 56), .inr (1, [.int 0, .int 0, .int 0, .int 0, .int 0, .int 0, .int 0])), ((u2 57), .inr (1, [.int 0, .int 0, .int 0, .int 0, .int 0, .int 0, .int 0])), ((u2 58), .inr (1, [.int 0, .int 0, .int 0, .int 0, .int 0, .int 0, .int 0])), ((u2 59), .inr (2, [.ref (u2 60), .ref (u2 65), .int 0, .int 0, .int 0])), ((u2 60), .inr (4, [.ref (u2 61), .ref (u2 62), .ref (u2 63), .ref (u2 64), .int 0, .int 0])), ((u2 61), .inl (y.1, 50, .inl (fun _ => 0))), ((u2 62), .inl (y.1, 50, .inl (fun _ => 0))), ((u2 63), .inl (y.1, 50, .inl (fun _ => 0))), ((u2 64), .inl (y.1, 50, .inl (fun _ => 0))), ((u2 65), .inl (y.1, 50, .inl (fun _ => 0))), ((u2 66), .inr (5, [.ref (u2 67), .int 0, .int 0, .int 0, .int 0])), ((u2 67), .inl (y.1, 40, .inl (fun _ => 0))), ((u2 68), .inl (y.2.2, 4, .inr (.inr (.inr (.inr (va_up (va_up (va_up (va_up (fun _ => none) 0 (some (u2 70))) 1 (some (u2 72))) 2 (some (u2 74))) 3 (some (u2 76)))))))), ((u2 69), .inl (y.1, 6, .inl (fun _ => 0))), ((u2 70), .inr (3, [.ref (u2 71), .int 0, .int 0])), ((u2 71), .inl (y.1, 40, .inl (fun _ => 0))), ((u2 72), .inr (3, [.ref (u2 73), .int 0, .int 0])), ((u2 73), .inl (y.1, 40, .inl (fun _ => 0))), ((u2 74), .inr (3, [.ref (u2 75), .int 0, .int 0])), ((u2 75), .inl (y.1, 40, .inl (fun _ => 0))), ((u2 76), .inr (3, [.ref (u2 77), .int 0, .int 0])), ((u2 77), .inl (y.1, 40, .inl (fun _ => 0))), (q3, .inr (8, [.ref (u4 0), .ref (u4 1), .ref (u4 2), .int 0, .int 0, .ref (u4 3), .int 0, .int 0, .int 0, .int 0, .int 0, .int 0, .ref (u4 4), .ref (u4 5), .ref (u4 6), .ref (u4 7), .ref (u4 8), .ref (u4 9), .ref (u4 10), .ref (u4 11), .int 0, .int 0, .int 0, .int 0])), ((u4 0), .inl (y.1, 244, .inl (upd (upd (upd (upd (fun _ => 0) 1 1) 8 1) 5 (-1)) 6 (-1)))), ((u4 1), .inl (y.1, 244, .inl (fun _ => 0))), ((u4 2), .inl (y.1, 244, .inl (fun _ => 0))), ((u4 3), .inl (y.1, 6, .inl (fun _ => 0))), ((u4 4), .inl (y.1, 50, .inl (fun _ => 0))), ((u4 5), .inl (y.1, 50, .inl (fun _ => 0))), ((u4 6), .inl (y.1, 3, .inl (fun _ => 0))), ((u4 7), .inl (y.1, 4, .inl (fun _ => 0))), ((u4 8), .inl (y.1, 4, .inl (fun _ => 0))), ((u4 9), .inl (y.1, 160, .inl (fun _ => 0))), ((u4 10), .inl (y.1, 40, .inl (fun _ => 0))), ((u4 11), .inl (y.1, 40, .inl (fun _ => 0)))]
set_option maxRecDepth 100000 in
theorem w0_0 {D : va_G} {y : wY} {H : Heap} {q1 : Nat} {q3 : Nat} {u2 : Nat → Nat} {u4 : Nat → Nat} {t9 : Nat} (hP : va_P D vwCl (w0L y q1 q3 u2 u4) H) : va_at D vwCl (ad0 q1 q3 u2 u4 t9 0, wE y (ad0 q1 q3 u2 u4 t9) M0 0) H := hP 0 _ rfl
set_option maxRecDepth 100000 in
theorem w0_1 {D : va_G} {y : wY} {H : Heap} {q1 : Nat} {q3 : Nat} {u2 : Nat → Nat} {u4 : Nat → Nat} {t9 : Nat} (hP : va_P D vwCl (w0L y q1 q3 u2 u4) H) : va_at D vwCl (ad0 q1 q3 u2 u4 t9 1, wE y (ad0 q1 q3 u2 u4 t9) M0 1) H := hP 1 _ rfl
set_option maxRecDepth 100000 in
theorem w0_2 {D : va_G} {y : wY} {H : Heap} {q1 : Nat} {q3 : Nat} {u2 : Nat → Nat} {u4 : Nat → Nat} {t9 : Nat} (hP : va_P D vwCl (w0L y q1 q3 u2 u4) H) : va_at D vwCl (ad0 q1 q3 u2 u4 t9 2, wE y (ad0 q1 q3 u2 u4 t9) M0 2) H := hP 23 _ rfl
set_option maxRecDepth 100000 in
theorem w0_3 {D : va_G} {y : wY} {H : Heap} {q1 : Nat} {q3 : Nat} {u2 : Nat → Nat} {u4 : Nat → Nat} {t9 : Nat} (hP : va_P D vwCl (w0L y q1 q3 u2 u4) H) : va_at D vwCl (ad0 q1 q3 u2 u4 t9 3, wE y (ad0 q1 q3 u2 u4 t9) M0 3) H := hP 2 _ rfl
set_option maxRecDepth 100000 in
theorem w0_4 {D : va_G} {y : wY} {H : Heap} {q1 : Nat} {q3 : Nat} {u2 : Nat → Nat} {u4 : Nat → Nat} {t9 : Nat} (hP : va_P D vwCl (w0L y q1 q3 u2 u4) H) : va_at D vwCl (ad0 q1 q3 u2 u4 t9 4, wE y (ad0 q1 q3 u2 u4 t9) M0 4) H := hP 3 _ rfl
set_option maxRecDepth 100000 in
theorem w0_5 {D : va_G} {y : wY} {H : Heap} {q1 : Nat} {q3 : Nat} {u2 : Nat → Nat} {u4 : Nat → Nat} {t9 : Nat} (hP : va_P D vwCl (w0L y q1 q3 u2 u4) H) : va_at D vwCl (ad0 q1 q3 u2 u4 t9 5, wE y (ad0 q1 q3 u2 u4 t9) M0 5) H := hP 4 _ rfl
set_option maxRecDepth 100000 in
theorem w0_6 {D : va_G} {y : wY} {H : Heap} {q1 : Nat} {q3 : Nat} {u2 : Nat → Nat} {u4 : Nat → Nat} {t9 : Nat} (hP : va_P D vwCl (w0L y q1 q3 u2 u4) H) : va_at D vwCl (ad0 q1 q3 u2 u4 t9 6, wE y (ad0 q1 q3 u2 u4 t9) M0 6) H := hP 5 _ rfl
set_option maxRecDepth 100000 in
theorem w0_7 {D : va_G} {y : wY} {H : Heap} {q1 : Nat} {q3 : Nat} {u2 : Nat → Nat} {u4 : Nat → Nat} {t9 : Nat} (hP : va_P D vwCl (w0L y q1 q3 u2 u4) H) : va_at D vwCl (ad0 q1 q3 u2 u4 t9 7, wE y (ad0 q1 q3 u2 u4 t9) M0 7) H := hP 24 _ rfl
set_option maxRecDepth 100000 in
theorem w0_8 {D : va_G} {y : wY} {H : Heap} {q1 : Nat} {q3 : Nat} {u2 : Nat → Nat} {u4 : Nat → Nat} {t9 : Nat} (hP : va_P D vwCl (w0L y q1 q3 u2 u4) H) : va_at D vwCl (ad0 q1 q3 u2 u4 t9 8, wE y (ad0 q1 q3 u2 u4 t9) M0 8) H := hP 6 _ rfl
set_option maxRecDepth 100000 in
theorem w0_9 {D : va_G} {y : wY} {H : Heap} {q1 : Nat} {q3 : Nat} {u2 : Nat → Nat} {u4 : Nat → Nat} {t9 : Nat} (hP : va_P D vwCl (w0L y q1 q3 u2 u4) H) : va_at D vwCl (ad0 q1 q3 u2 u4 t9 9, wE y (ad0 q1 q3 u2 u4 t9) M0 9) H := hP 7 _ rfl
set_option maxRecDepth 100000 in
theorem w0_10 {D : va_G} {y : wY} {H : Heap} {q1 : Nat} {q3 : Nat} {u2 : Nat → Nat} {u4 : Nat → Nat} {t9 : Nat} (hP : va_P D vwCl (w0L y q1 q3 u2 u4) H) : va_at D vwCl (ad0 q1 q3 u2 u4 t9 10, wE y (ad0 q1 q3 u2 u4 t9) M0 10) H := hP 8 _ rfl
set_option maxRecDepth 100000 in
theorem w0_11 {D : va_G} {y : wY} {H : Heap} {q1 : Nat} {q3 : Nat} {u2 : Nat → Nat} {u4 : Nat → Nat} {t9 : Nat} (hP : va_P D vwCl (w0L y q1 q3 u2 u4) H) : va_at D vwCl (ad0 q1 q3 u2 u4 t9 11, wE y (ad0 q1 q3 u2 u4 t9) M0 11) H := hP 9 _ rfl
set_option maxRecDepth 100000 in
theorem w0_12 {D : va_G} {y : wY} {H : Heap} {q1 : Nat} {q3 : Nat} {u2 : Nat → Nat} {u4 : Nat → Nat} {t9 : Nat} (hP : va_P D vwCl (w0L y q1 q3 u2 u4) H) : va_at D vwCl (ad0 q1 q3 u2 u4 t9 12, wE y (ad0 q1 q3 u2 u4 t9) M0 12) H := hP 10 _ rfl
set_option maxRecDepth 100000 in
theorem w0_13 {D : va_G} {y : wY} {H : Heap} {q1 : Nat} {q3 : Nat} {u2 : Nat → Nat} {u4 : Nat → Nat} {t9 : Nat} (hP : va_P D vwCl (w0L y q1 q3 u2 u4) H) : va_at D vwCl (ad0 q1 q3 u2 u4 t9 13, wE y (ad0 q1 q3 u2 u4 t9) M0 13) H := by
  refine Eq.trans (hP 11 _ rfl) (congrArg some (qcell (fun j hj => ?_)))
  rcases (by omega : j = 0 ∨ j = 1 ∨ j = 2 ∨ j = 3 ∨ j = 4 ∨ j = 5 ∨ j = 6 ∨ j = 7 ∨ j = 8) with rfl | rfl | rfl | rfl | rfl | rfl | rfl | rfl | rfl <;> rfl
set_option maxRecDepth 100000 in
theorem w0_14 {D : va_G} {y : wY} {H : Heap} {q1 : Nat} {q3 : Nat} {u2 : Nat → Nat} {u4 : Nat → Nat} {t9 : Nat} (hP : va_P D vwCl (w0L y q1 q3 u2 u4) H) : va_at D vwCl (ad0 q1 q3 u2 u4 t9 14, wE y (ad0 q1 q3 u2 u4 t9) M0 14) H := hP 12 _ rfl
set_option maxRecDepth 100000 in
theorem w0_15 {D : va_G} {y : wY} {H : Heap} {q1 : Nat} {q3 : Nat} {u2 : Nat → Nat} {u4 : Nat → Nat} {t9 : Nat} (hP : va_P D vwCl (w0L y q1 q3 u2 u4) H) : va_at D vwCl (ad0 q1 q3 u2 u4 t9 15, wE y (ad0 q1 q3 u2 u4 t9) M0 15) H := hP 13 _ rfl
set_option maxRecDepth 100000 in
theorem w0_16 {D : va_G} {y : wY} {H : Heap} {q1 : Nat} {q3 : Nat} {u2 : Nat → Nat} {u4 : Nat → Nat} {t9 : Nat} (hP : va_P D vwCl (w0L y q1 q3 u2 u4) H) : va_at D vwCl (ad0 q1 q3 u2 u4 t9 16, wE y (ad0 q1 q3 u2 u4 t9) M0 16) H := hP 14 _ rfl
set_option maxRecDepth 100000 in
theorem w0_17 {D : va_G} {y : wY} {H : Heap} {q1 : Nat} {q3 : Nat} {u2 : Nat → Nat} {u4 : Nat → Nat} {t9 : Nat} (hP : va_P D vwCl (w0L y q1 q3 u2 u4) H) : va_at D vwCl (ad0 q1 q3 u2 u4 t9 17, wE y (ad0 q1 q3 u2 u4 t9) M0 17) H := hP 15 _ rfl
set_option maxRecDepth 100000 in
theorem w0_18 {D : va_G} {y : wY} {H : Heap} {q1 : Nat} {q3 : Nat} {u2 : Nat → Nat} {u4 : Nat → Nat} {t9 : Nat} (hP : va_P D vwCl (w0L y q1 q3 u2 u4) H) : va_at D vwCl (ad0 q1 q3 u2 u4 t9 18, wE y (ad0 q1 q3 u2 u4 t9) M0 18) H := hP 16 _ rfl
set_option maxRecDepth 100000 in
theorem w0_19 {D : va_G} {y : wY} {H : Heap} {q1 : Nat} {q3 : Nat} {u2 : Nat → Nat} {u4 : Nat → Nat} {t9 : Nat} (hP : va_P D vwCl (w0L y q1 q3 u2 u4) H) : va_at D vwCl (ad0 q1 q3 u2 u4 t9 19, wE y (ad0 q1 q3 u2 u4 t9) M0 19) H := hP 17 _ rfl
set_option maxRecDepth 100000 in
theorem w0_20 {D : va_G} {y : wY} {H : Heap} {q1 : Nat} {q3 : Nat} {u2 : Nat → Nat} {u4 : Nat → Nat} {t9 : Nat} (hP : va_P D vwCl (w0L y q1 q3 u2 u4) H) : va_at D vwCl (ad0 q1 q3 u2 u4 t9 20, wE y (ad0 q1 q3 u2 u4 t9) M0 20) H := hP 18 _ rfl
set_option maxRecDepth 100000 in
theorem w0_21 {D : va_G} {y : wY} {H : Heap} {q1 : Nat} {q3 : Nat} {u2 : Nat → Nat} {u4 : Nat → Nat} {t9 : Nat} (hP : va_P D vwCl (w0L y q1 q3 u2 u4) H) : va_at D vwCl (ad0 q1 q3 u2 u4 t9 21, wE y (ad0 q1 q3 u2 u4 t9) M0 21) H := hP 19 _ rfl
set_option maxRecDepth 100000 in
theorem w0_22 {D : va_G} {y : wY} {H : Heap} {q1 : Nat} {q3 : Nat} {u2 : Nat → Nat} {u4 : Nat → Nat} {t9 : Nat} (hP : va_P D vwCl (w0L y q1 q3 u2 u4) H) : va_at D vwCl (ad0 q1 q3 u2 u4 t9 22, wE y (ad0 q1 q3 u2 u4 t9) M0 22) H := hP 20 _ rfl
set_option maxRecDepth 100000 in
theorem w0_23 {D : va_G} {y : wY} {H : Heap} {q1 : Nat} {q3 : Nat} {u2 : Nat → Nat} {u4 : Nat → Nat} {t9 : Nat} (hP : va_P D vwCl (w0L y q1 q3 u2 u4) H) : va_at D vwCl (ad0 q1 q3 u2 u4 t9 23, wE y (ad0 q1 q3 u2 u4 t9) M0 23) H := hP 21 _ rfl
set_option maxRecDepth 100000 in
theorem w0_24 {D : va_G} {y : wY} {H : Heap} {q1 : Nat} {q3 : Nat} {u2 : Nat → Nat} {u4 : Nat → Nat} {t9 : Nat} (hP : va_P D vwCl (w0L y q1 q3 u2 u4) H) : va_at D vwCl (ad0 q1 q3 u2 u4 t9 24, wE y (ad0 q1 q3 u2 u4 t9) M0 24) H := hP 22 _ rfl
set_option maxRecDepth 100000 in
theorem w0_25 {D : va_G} {y : wY} {H : Heap} {q1 : Nat} {q3 : Nat} {u2 : Nat → Nat} {u4 : Nat → Nat} {t9 : Nat} (hP : va_P D vwCl (w0L y q1 q3 u2 u4) H) : va_at D vwCl (ad0 q1 q3 u2 u4 t9 25, wE y (ad0 q1 q3 u2 u4 t9) M0 25) H := hP 25 _ rfl
set_option maxRecDepth 100000 in
theorem w0_26 {D : va_G} {y : wY} {H : Heap} {q1 : Nat} {q3 : Nat} {u2 : Nat → Nat} {u4 : Nat → Nat} {t9 : Nat} (hP : va_P D vwCl (w0L y q1 q3 u2 u4) H) : va_at D vwCl (ad0 q1 q3 u2 u4 t9 26, wE y (ad0 q1 q3 u2 u4 t9) M0 26) H := hP 47 _ rfl
set_option maxRecDepth 100000 in
theorem w0_27 {D : va_G} {y : wY} {H : Heap} {q1 : Nat} {q3 : Nat} {u2 : Nat → Nat} {u4 : Nat → Nat} {t9 : Nat} (hP : va_P D vwCl (w0L y q1 q3 u2 u4) H) : va_at D vwCl (ad0 q1 q3 u2 u4 t9 27, wE y (ad0 q1 q3 u2 u4 t9) M0 27) H := hP 26 _ rfl
set_option maxRecDepth 100000 in
theorem w0_28 {D : va_G} {y : wY} {H : Heap} {q1 : Nat} {q3 : Nat} {u2 : Nat → Nat} {u4 : Nat → Nat} {t9 : Nat} (hP : va_P D vwCl (w0L y q1 q3 u2 u4) H) : va_at D vwCl (ad0 q1 q3 u2 u4 t9 28, wE y (ad0 q1 q3 u2 u4 t9) M0 28) H := hP 27 _ rfl
set_option maxRecDepth 100000 in
theorem w0_29 {D : va_G} {y : wY} {H : Heap} {q1 : Nat} {q3 : Nat} {u2 : Nat → Nat} {u4 : Nat → Nat} {t9 : Nat} (hP : va_P D vwCl (w0L y q1 q3 u2 u4) H) : va_at D vwCl (ad0 q1 q3 u2 u4 t9 29, wE y (ad0 q1 q3 u2 u4 t9) M0 29) H := hP 28 _ rfl
set_option maxRecDepth 100000 in
theorem w0_30 {D : va_G} {y : wY} {H : Heap} {q1 : Nat} {q3 : Nat} {u2 : Nat → Nat} {u4 : Nat → Nat} {t9 : Nat} (hP : va_P D vwCl (w0L y q1 q3 u2 u4) H) : va_at D vwCl (ad0 q1 q3 u2 u4 t9 30, wE y (ad0 q1 q3 u2 u4 t9) M0 30) H := hP 29 _ rfl
set_option maxRecDepth 100000 in
theorem w0_31 {D : va_G} {y : wY} {H : Heap} {q1 : Nat} {q3 : Nat} {u2 : Nat → Nat} {u4 : Nat → Nat} {t9 : Nat} (hP : va_P D vwCl (w0L y q1 q3 u2 u4) H) : va_at D vwCl (ad0 q1 q3 u2 u4 t9 31, wE y (ad0 q1 q3 u2 u4 t9) M0 31) H := hP 48 _ rfl
set_option maxRecDepth 100000 in
theorem w0_32 {D : va_G} {y : wY} {H : Heap} {q1 : Nat} {q3 : Nat} {u2 : Nat → Nat} {u4 : Nat → Nat} {t9 : Nat} (hP : va_P D vwCl (w0L y q1 q3 u2 u4) H) : va_at D vwCl (ad0 q1 q3 u2 u4 t9 32, wE y (ad0 q1 q3 u2 u4 t9) M0 32) H := hP 30 _ rfl
set_option maxRecDepth 100000 in
theorem w0_33 {D : va_G} {y : wY} {H : Heap} {q1 : Nat} {q3 : Nat} {u2 : Nat → Nat} {u4 : Nat → Nat} {t9 : Nat} (hP : va_P D vwCl (w0L y q1 q3 u2 u4) H) : va_at D vwCl (ad0 q1 q3 u2 u4 t9 33, wE y (ad0 q1 q3 u2 u4 t9) M0 33) H := hP 31 _ rfl
set_option maxRecDepth 100000 in
theorem w0_34 {D : va_G} {y : wY} {H : Heap} {q1 : Nat} {q3 : Nat} {u2 : Nat → Nat} {u4 : Nat → Nat} {t9 : Nat} (hP : va_P D vwCl (w0L y q1 q3 u2 u4) H) : va_at D vwCl (ad0 q1 q3 u2 u4 t9 34, wE y (ad0 q1 q3 u2 u4 t9) M0 34) H := hP 32 _ rfl
set_option maxRecDepth 100000 in
theorem w0_35 {D : va_G} {y : wY} {H : Heap} {q1 : Nat} {q3 : Nat} {u2 : Nat → Nat} {u4 : Nat → Nat} {t9 : Nat} (hP : va_P D vwCl (w0L y q1 q3 u2 u4) H) : va_at D vwCl (ad0 q1 q3 u2 u4 t9 35, wE y (ad0 q1 q3 u2 u4 t9) M0 35) H := hP 33 _ rfl
set_option maxRecDepth 100000 in
theorem w0_36 {D : va_G} {y : wY} {H : Heap} {q1 : Nat} {q3 : Nat} {u2 : Nat → Nat} {u4 : Nat → Nat} {t9 : Nat} (hP : va_P D vwCl (w0L y q1 q3 u2 u4) H) : va_at D vwCl (ad0 q1 q3 u2 u4 t9 36, wE y (ad0 q1 q3 u2 u4 t9) M0 36) H := hP 34 _ rfl
set_option maxRecDepth 100000 in
theorem w0_37 {D : va_G} {y : wY} {H : Heap} {q1 : Nat} {q3 : Nat} {u2 : Nat → Nat} {u4 : Nat → Nat} {t9 : Nat} (hP : va_P D vwCl (w0L y q1 q3 u2 u4) H) : va_at D vwCl (ad0 q1 q3 u2 u4 t9 37, wE y (ad0 q1 q3 u2 u4 t9) M0 37) H := by
  refine Eq.trans (hP 35 _ rfl) (congrArg some (qcell (fun j hj => ?_)))
  rcases (by omega : j = 0 ∨ j = 1 ∨ j = 2 ∨ j = 3 ∨ j = 4 ∨ j = 5 ∨ j = 6 ∨ j = 7 ∨ j = 8) with rfl | rfl | rfl | rfl | rfl | rfl | rfl | rfl | rfl <;> rfl
set_option maxRecDepth 100000 in
theorem w0_38 {D : va_G} {y : wY} {H : Heap} {q1 : Nat} {q3 : Nat} {u2 : Nat → Nat} {u4 : Nat → Nat} {t9 : Nat} (hP : va_P D vwCl (w0L y q1 q3 u2 u4) H) : va_at D vwCl (ad0 q1 q3 u2 u4 t9 38, wE y (ad0 q1 q3 u2 u4 t9) M0 38) H := hP 36 _ rfl
set_option maxRecDepth 100000 in
theorem w0_39 {D : va_G} {y : wY} {H : Heap} {q1 : Nat} {q3 : Nat} {u2 : Nat → Nat} {u4 : Nat → Nat} {t9 : Nat} (hP : va_P D vwCl (w0L y q1 q3 u2 u4) H) : va_at D vwCl (ad0 q1 q3 u2 u4 t9 39, wE y (ad0 q1 q3 u2 u4 t9) M0 39) H := hP 37 _ rfl
set_option maxRecDepth 100000 in
theorem w0_40 {D : va_G} {y : wY} {H : Heap} {q1 : Nat} {q3 : Nat} {u2 : Nat → Nat} {u4 : Nat → Nat} {t9 : Nat} (hP : va_P D vwCl (w0L y q1 q3 u2 u4) H) : va_at D vwCl (ad0 q1 q3 u2 u4 t9 40, wE y (ad0 q1 q3 u2 u4 t9) M0 40) H := hP 38 _ rfl
set_option maxRecDepth 100000 in
theorem w0_41 {D : va_G} {y : wY} {H : Heap} {q1 : Nat} {q3 : Nat} {u2 : Nat → Nat} {u4 : Nat → Nat} {t9 : Nat} (hP : va_P D vwCl (w0L y q1 q3 u2 u4) H) : va_at D vwCl (ad0 q1 q3 u2 u4 t9 41, wE y (ad0 q1 q3 u2 u4 t9) M0 41) H := hP 39 _ rfl
set_option maxRecDepth 100000 in
theorem w0_42 {D : va_G} {y : wY} {H : Heap} {q1 : Nat} {q3 : Nat} {u2 : Nat → Nat} {u4 : Nat → Nat} {t9 : Nat} (hP : va_P D vwCl (w0L y q1 q3 u2 u4) H) : va_at D vwCl (ad0 q1 q3 u2 u4 t9 42, wE y (ad0 q1 q3 u2 u4 t9) M0 42) H := hP 40 _ rfl
set_option maxRecDepth 100000 in
theorem w0_43 {D : va_G} {y : wY} {H : Heap} {q1 : Nat} {q3 : Nat} {u2 : Nat → Nat} {u4 : Nat → Nat} {t9 : Nat} (hP : va_P D vwCl (w0L y q1 q3 u2 u4) H) : va_at D vwCl (ad0 q1 q3 u2 u4 t9 43, wE y (ad0 q1 q3 u2 u4 t9) M0 43) H := hP 41 _ rfl
set_option maxRecDepth 100000 in
theorem w0_44 {D : va_G} {y : wY} {H : Heap} {q1 : Nat} {q3 : Nat} {u2 : Nat → Nat} {u4 : Nat → Nat} {t9 : Nat} (hP : va_P D vwCl (w0L y q1 q3 u2 u4) H) : va_at D vwCl (ad0 q1 q3 u2 u4 t9 44, wE y (ad0 q1 q3 u2 u4 t9) M0 44) H := hP 42 _ rfl
set_option maxRecDepth 100000 in
theorem w0_45 {D : va_G} {y : wY} {H : Heap} {q1 : Nat} {q3 : Nat} {u2 : Nat → Nat} {u4 : Nat → Nat} {t9 : Nat} (hP : va_P D vwCl (w0L y q1 q3 u2 u4) H) : va_at D vwCl (ad0 q1 q3 u2 u4 t9 45, wE y (ad0 q1 q3 u2 u4 t9) M0 45) H := hP 43 _ rfl
set_option maxRecDepth 100000 in
theorem w0_46 {D : va_G} {y : wY} {H : Heap} {q1 : Nat} {q3 : Nat} {u2 : Nat → Nat} {u4 : Nat → Nat} {t9 : Nat} (hP : va_P D vwCl (w0L y q1 q3 u2 u4) H) : va_at D vwCl (ad0 q1 q3 u2 u4 t9 46, wE y (ad0 q1 q3 u2 u4 t9) M0 46) H := hP 44 _ rfl
set_option maxRecDepth 100000 in
theorem w0_47 {D : va_G} {y : wY} {H : Heap} {q1 : Nat} {q3 : Nat} {u2 : Nat → Nat} {u4 : Nat → Nat} {t9 : Nat} (hP : va_P D vwCl (w0L y q1 q3 u2 u4) H) : va_at D vwCl (ad0 q1 q3 u2 u4 t9 47, wE y (ad0 q1 q3 u2 u4 t9) M0 47) H := hP 45 _ rfl
set_option maxRecDepth 100000 in
theorem w0_48 {D : va_G} {y : wY} {H : Heap} {q1 : Nat} {q3 : Nat} {u2 : Nat → Nat} {u4 : Nat → Nat} {t9 : Nat} (hP : va_P D vwCl (w0L y q1 q3 u2 u4) H) : va_at D vwCl (ad0 q1 q3 u2 u4 t9 48, wE y (ad0 q1 q3 u2 u4 t9) M0 48) H := hP 46 _ rfl
set_option maxRecDepth 100000 in
theorem w0_49 {D : va_G} {y : wY} {H : Heap} {q1 : Nat} {q3 : Nat} {u2 : Nat → Nat} {u4 : Nat → Nat} {t9 : Nat} (hP : va_P D vwCl (w0L y q1 q3 u2 u4) H) : va_at D vwCl (ad0 q1 q3 u2 u4 t9 49, wE y (ad0 q1 q3 u2 u4 t9) M0 49) H := hP 49 _ rfl
set_option maxRecDepth 100000 in
theorem w0_50 {D : va_G} {y : wY} {H : Heap} {q1 : Nat} {q3 : Nat} {u2 : Nat → Nat} {u4 : Nat → Nat} {t9 : Nat} (hP : va_P D vwCl (w0L y q1 q3 u2 u4) H) : va_at D vwCl (ad0 q1 q3 u2 u4 t9 50, wE y (ad0 q1 q3 u2 u4 t9) M0 50) H := by
  refine Eq.trans (hP 50 _ rfl) (congrArg some (qcell (fun j hj => ?_)))
  rcases (by omega : j = 0 ∨ j = 1 ∨ j = 2 ∨ j = 3 ∨ j = 4 ∨ j = 5 ∨ j = 6 ∨ j = 7 ∨ j = 8) with rfl | rfl | rfl | rfl | rfl | rfl | rfl | rfl | rfl <;> rfl
set_option maxRecDepth 100000 in
theorem w0_51 {D : va_G} {y : wY} {H : Heap} {q1 : Nat} {q3 : Nat} {u2 : Nat → Nat} {u4 : Nat → Nat} {t9 : Nat} (hP : va_P D vwCl (w0L y q1 q3 u2 u4) H) : va_at D vwCl (ad0 q1 q3 u2 u4 t9 51, wE y (ad0 q1 q3 u2 u4 t9) M0 51) H := hP 51 _ rfl
set_option maxRecDepth 100000 in
theorem w0_52 {D : va_G} {y : wY} {H : Heap} {q1 : Nat} {q3 : Nat} {u2 : Nat → Nat} {u4 : Nat → Nat} {t9 : Nat} (hP : va_P D vwCl (w0L y q1 q3 u2 u4) H) : va_at D vwCl (ad0 q1 q3 u2 u4 t9 52, wE y (ad0 q1 q3 u2 u4 t9) M0 52) H := hP 52 _ rfl
set_option maxRecDepth 100000 in
theorem w0_53 {D : va_G} {y : wY} {H : Heap} {q1 : Nat} {q3 : Nat} {u2 : Nat → Nat} {u4 : Nat → Nat} {t9 : Nat} (hP : va_P D vwCl (w0L y q1 q3 u2 u4) H) : va_at D vwCl (ad0 q1 q3 u2 u4 t9 53, wE y (ad0 q1 q3 u2 u4 t9) M0 53) H := hP 53 _ rfl
set_option maxRecDepth 100000 in
theorem w0_54 {D : va_G} {y : wY} {H : Heap} {q1 : Nat} {q3 : Nat} {u2 : Nat → Nat} {u4 : Nat → Nat} {t9 : Nat} (hP : va_P D vwCl (w0L y q1 q3 u2 u4) H) : va_at D vwCl (ad0 q1 q3 u2 u4 t9 54, wE y (ad0 q1 q3 u2 u4 t9) M0 54) H := hP 54 _ rfl
set_option maxRecDepth 100000 in
theorem w0_55 {D : va_G} {y : wY} {H : Heap} {q1 : Nat} {q3 : Nat} {u2 : Nat → Nat} {u4 : Nat → Nat} {t9 : Nat} (hP : va_P D vwCl (w0L y q1 q3 u2 u4) H) : va_at D vwCl (ad0 q1 q3 u2 u4 t9 55, wE y (ad0 q1 q3 u2 u4 t9) M0 55) H := hP 55 _ rfl
set_option maxRecDepth 100000 in
theorem w0_56 {D : va_G} {y : wY} {H : Heap} {q1 : Nat} {q3 : Nat} {u2 : Nat → Nat} {u4 : Nat → Nat} {t9 : Nat} (hP : va_P D vwCl (w0L y q1 q3 u2 u4) H) : va_at D vwCl (ad0 q1 q3 u2 u4 t9 56, wE y (ad0 q1 q3 u2 u4 t9) M0 56) H := hP 56 _ rfl
set_option maxRecDepth 100000 in
theorem w0_57 {D : va_G} {y : wY} {H : Heap} {q1 : Nat} {q3 : Nat} {u2 : Nat → Nat} {u4 : Nat → Nat} {t9 : Nat} (hP : va_P D vwCl (w0L y q1 q3 u2 u4) H) : va_at D vwCl (ad0 q1 q3 u2 u4 t9 57, wE y (ad0 q1 q3 u2 u4 t9) M0 57) H := hP 57 _ rfl
set_option maxRecDepth 100000 in
theorem w0_58 {D : va_G} {y : wY} {H : Heap} {q1 : Nat} {q3 : Nat} {u2 : Nat → Nat} {u4 : Nat → Nat} {t9 : Nat} (hP : va_P D vwCl (w0L y q1 q3 u2 u4) H) : va_at D vwCl (ad0 q1 q3 u2 u4 t9 58, wE y (ad0 q1 q3 u2 u4 t9) M0 58) H := hP 58 _ rfl
set_option maxRecDepth 100000 in
theorem w0_59 {D : va_G} {y : wY} {H : Heap} {q1 : Nat} {q3 : Nat} {u2 : Nat → Nat} {u4 : Nat → Nat} {t9 : Nat} (hP : va_P D vwCl (w0L y q1 q3 u2 u4) H) : va_at D vwCl (ad0 q1 q3 u2 u4 t9 59, wE y (ad0 q1 q3 u2 u4 t9) M0 59) H := hP 59 _ rfl
set_option maxRecDepth 100000 in
theorem w0_60 {D : va_G} {y : wY} {H : Heap} {q1 : Nat} {q3 : Nat} {u2 : Nat → Nat} {u4 : Nat → Nat} {t9 : Nat} (hP : va_P D vwCl (w0L y q1 q3 u2 u4) H) : va_at D vwCl (ad0 q1 q3 u2 u4 t9 60, wE y (ad0 q1 q3 u2 u4 t9) M0 60) H := hP 60 _ rfl
set_option maxRecDepth 100000 in
theorem w0_61 {D : va_G} {y : wY} {H : Heap} {q1 : Nat} {q3 : Nat} {u2 : Nat → Nat} {u4 : Nat → Nat} {t9 : Nat} (hP : va_P D vwCl (w0L y q1 q3 u2 u4) H) : va_at D vwCl (ad0 q1 q3 u2 u4 t9 61, wE y (ad0 q1 q3 u2 u4 t9) M0 61) H := hP 61 _ rfl
set_option maxRecDepth 100000 in
theorem w0_62 {D : va_G} {y : wY} {H : Heap} {q1 : Nat} {q3 : Nat} {u2 : Nat → Nat} {u4 : Nat → Nat} {t9 : Nat} (hP : va_P D vwCl (w0L y q1 q3 u2 u4) H) : va_at D vwCl (ad0 q1 q3 u2 u4 t9 62, wE y (ad0 q1 q3 u2 u4 t9) M0 62) H := hP 62 _ rfl
set_option maxRecDepth 100000 in
theorem w0_63 {D : va_G} {y : wY} {H : Heap} {q1 : Nat} {q3 : Nat} {u2 : Nat → Nat} {u4 : Nat → Nat} {t9 : Nat} (hP : va_P D vwCl (w0L y q1 q3 u2 u4) H) : va_at D vwCl (ad0 q1 q3 u2 u4 t9 63, wE y (ad0 q1 q3 u2 u4 t9) M0 63) H := hP 63 _ rfl
set_option maxRecDepth 100000 in
theorem w0_64 {D : va_G} {y : wY} {H : Heap} {q1 : Nat} {q3 : Nat} {u2 : Nat → Nat} {u4 : Nat → Nat} {t9 : Nat} (hP : va_P D vwCl (w0L y q1 q3 u2 u4) H) : va_at D vwCl (ad0 q1 q3 u2 u4 t9 64, wE y (ad0 q1 q3 u2 u4 t9) M0 64) H := hP 64 _ rfl
set_option maxRecDepth 100000 in
theorem w0_65 {D : va_G} {y : wY} {H : Heap} {q1 : Nat} {q3 : Nat} {u2 : Nat → Nat} {u4 : Nat → Nat} {t9 : Nat} (hP : va_P D vwCl (w0L y q1 q3 u2 u4) H) : va_at D vwCl (ad0 q1 q3 u2 u4 t9 65, wE y (ad0 q1 q3 u2 u4 t9) M0 65) H := hP 65 _ rfl
set_option maxRecDepth 100000 in
theorem w0_66 {D : va_G} {y : wY} {H : Heap} {q1 : Nat} {q3 : Nat} {u2 : Nat → Nat} {u4 : Nat → Nat} {t9 : Nat} (hP : va_P D vwCl (w0L y q1 q3 u2 u4) H) : va_at D vwCl (ad0 q1 q3 u2 u4 t9 66, wE y (ad0 q1 q3 u2 u4 t9) M0 66) H := hP 66 _ rfl
set_option maxRecDepth 100000 in
theorem w0_67 {D : va_G} {y : wY} {H : Heap} {q1 : Nat} {q3 : Nat} {u2 : Nat → Nat} {u4 : Nat → Nat} {t9 : Nat} (hP : va_P D vwCl (w0L y q1 q3 u2 u4) H) : va_at D vwCl (ad0 q1 q3 u2 u4 t9 67, wE y (ad0 q1 q3 u2 u4 t9) M0 67) H := hP 67 _ rfl
set_option maxRecDepth 100000 in
theorem w0_68 {D : va_G} {y : wY} {H : Heap} {q1 : Nat} {q3 : Nat} {u2 : Nat → Nat} {u4 : Nat → Nat} {t9 : Nat} (hP : va_P D vwCl (w0L y q1 q3 u2 u4) H) : va_at D vwCl (ad0 q1 q3 u2 u4 t9 68, wE y (ad0 q1 q3 u2 u4 t9) M0 68) H := hP 68 _ rfl
set_option maxRecDepth 100000 in
theorem w0_69 {D : va_G} {y : wY} {H : Heap} {q1 : Nat} {q3 : Nat} {u2 : Nat → Nat} {u4 : Nat → Nat} {t9 : Nat} (hP : va_P D vwCl (w0L y q1 q3 u2 u4) H) : va_at D vwCl (ad0 q1 q3 u2 u4 t9 69, wE y (ad0 q1 q3 u2 u4 t9) M0 69) H := by
  refine Eq.trans (hP 69 _ rfl) (congrArg some (qcell (fun j hj => ?_)))
  rcases (by omega : j = 0 ∨ j = 1 ∨ j = 2 ∨ j = 3) with rfl | rfl | rfl | rfl <;> rfl
set_option maxRecDepth 100000 in
theorem w0_70 {D : va_G} {y : wY} {H : Heap} {q1 : Nat} {q3 : Nat} {u2 : Nat → Nat} {u4 : Nat → Nat} {t9 : Nat} (hP : va_P D vwCl (w0L y q1 q3 u2 u4) H) : va_at D vwCl (ad0 q1 q3 u2 u4 t9 70, wE y (ad0 q1 q3 u2 u4 t9) M0 70) H := hP 71 _ rfl
set_option maxRecDepth 100000 in
theorem w0_71 {D : va_G} {y : wY} {H : Heap} {q1 : Nat} {q3 : Nat} {u2 : Nat → Nat} {u4 : Nat → Nat} {t9 : Nat} (hP : va_P D vwCl (w0L y q1 q3 u2 u4) H) : va_at D vwCl (ad0 q1 q3 u2 u4 t9 71, wE y (ad0 q1 q3 u2 u4 t9) M0 71) H := hP 72 _ rfl
set_option maxRecDepth 100000 in
theorem w0_72 {D : va_G} {y : wY} {H : Heap} {q1 : Nat} {q3 : Nat} {u2 : Nat → Nat} {u4 : Nat → Nat} {t9 : Nat} (hP : va_P D vwCl (w0L y q1 q3 u2 u4) H) : va_at D vwCl (ad0 q1 q3 u2 u4 t9 72, wE y (ad0 q1 q3 u2 u4 t9) M0 72) H := hP 73 _ rfl
set_option maxRecDepth 100000 in
theorem w0_73 {D : va_G} {y : wY} {H : Heap} {q1 : Nat} {q3 : Nat} {u2 : Nat → Nat} {u4 : Nat → Nat} {t9 : Nat} (hP : va_P D vwCl (w0L y q1 q3 u2 u4) H) : va_at D vwCl (ad0 q1 q3 u2 u4 t9 73, wE y (ad0 q1 q3 u2 u4 t9) M0 73) H := hP 74 _ rfl
set_option maxRecDepth 100000 in
theorem w0_74 {D : va_G} {y : wY} {H : Heap} {q1 : Nat} {q3 : Nat} {u2 : Nat → Nat} {u4 : Nat → Nat} {t9 : Nat} (hP : va_P D vwCl (w0L y q1 q3 u2 u4) H) : va_at D vwCl (ad0 q1 q3 u2 u4 t9 74, wE y (ad0 q1 q3 u2 u4 t9) M0 74) H := hP 75 _ rfl
set_option maxRecDepth 100000 in
theorem w0_75 {D : va_G} {y : wY} {H : Heap} {q1 : Nat} {q3 : Nat} {u2 : Nat → Nat} {u4 : Nat → Nat} {t9 : Nat} (hP : va_P D vwCl (w0L y q1 q3 u2 u4) H) : va_at D vwCl (ad0 q1 q3 u2 u4 t9 75, wE y (ad0 q1 q3 u2 u4 t9) M0 75) H := hP 76 _ rfl
set_option maxRecDepth 100000 in
theorem w0_76 {D : va_G} {y : wY} {H : Heap} {q1 : Nat} {q3 : Nat} {u2 : Nat → Nat} {u4 : Nat → Nat} {t9 : Nat} (hP : va_P D vwCl (w0L y q1 q3 u2 u4) H) : va_at D vwCl (ad0 q1 q3 u2 u4 t9 76, wE y (ad0 q1 q3 u2 u4 t9) M0 76) H := hP 77 _ rfl
set_option maxRecDepth 100000 in
theorem w0_77 {D : va_G} {y : wY} {H : Heap} {q1 : Nat} {q3 : Nat} {u2 : Nat → Nat} {u4 : Nat → Nat} {t9 : Nat} (hP : va_P D vwCl (w0L y q1 q3 u2 u4) H) : va_at D vwCl (ad0 q1 q3 u2 u4 t9 77, wE y (ad0 q1 q3 u2 u4 t9) M0 77) H := hP 78 _ rfl
set_option maxRecDepth 100000 in
theorem w0_78 {D : va_G} {y : wY} {H : Heap} {q1 : Nat} {q3 : Nat} {u2 : Nat → Nat} {u4 : Nat → Nat} {t9 : Nat} (hP : va_P D vwCl (w0L y q1 q3 u2 u4) H) : va_at D vwCl (ad0 q1 q3 u2 u4 t9 78, wE y (ad0 q1 q3 u2 u4 t9) M0 78) H := hP 70 _ rfl
set_option maxRecDepth 100000 in
theorem w0_79 {D : va_G} {y : wY} {H : Heap} {q1 : Nat} {q3 : Nat} {u2 : Nat → Nat} {u4 : Nat → Nat} {t9 : Nat} (hP : va_P D vwCl (w0L y q1 q3 u2 u4) H) : va_at D vwCl (ad0 q1 q3 u2 u4 t9 79, wE y (ad0 q1 q3 u2 u4 t9) M0 79) H := hP 79 _ rfl
set_option maxRecDepth 100000 in
theorem w0_80 {D : va_G} {y : wY} {H : Heap} {q1 : Nat} {q3 : Nat} {u2 : Nat → Nat} {u4 : Nat → Nat} {t9 : Nat} (hP : va_P D vwCl (w0L y q1 q3 u2 u4) H) : va_at D vwCl (ad0 q1 q3 u2 u4 t9 80, wE y (ad0 q1 q3 u2 u4 t9) M0 80) H := hP 80 _ rfl
set_option maxRecDepth 100000 in
theorem w0_81 {D : va_G} {y : wY} {H : Heap} {q1 : Nat} {q3 : Nat} {u2 : Nat → Nat} {u4 : Nat → Nat} {t9 : Nat} (hP : va_P D vwCl (w0L y q1 q3 u2 u4) H) : va_at D vwCl (ad0 q1 q3 u2 u4 t9 81, wE y (ad0 q1 q3 u2 u4 t9) M0 81) H := hP 81 _ rfl
set_option maxRecDepth 100000 in
theorem w0_82 {D : va_G} {y : wY} {H : Heap} {q1 : Nat} {q3 : Nat} {u2 : Nat → Nat} {u4 : Nat → Nat} {t9 : Nat} (hP : va_P D vwCl (w0L y q1 q3 u2 u4) H) : va_at D vwCl (ad0 q1 q3 u2 u4 t9 82, wE y (ad0 q1 q3 u2 u4 t9) M0 82) H := hP 82 _ rfl
set_option maxRecDepth 100000 in
theorem w0_83 {D : va_G} {y : wY} {H : Heap} {q1 : Nat} {q3 : Nat} {u2 : Nat → Nat} {u4 : Nat → Nat} {t9 : Nat} (hP : va_P D vwCl (w0L y q1 q3 u2 u4) H) : va_at D vwCl (ad0 q1 q3 u2 u4 t9 83, wE y (ad0 q1 q3 u2 u4 t9) M0 83) H := hP 83 _ rfl
set_option maxRecDepth 100000 in
theorem w0_84 {D : va_G} {y : wY} {H : Heap} {q1 : Nat} {q3 : Nat} {u2 : Nat → Nat} {u4 : Nat → Nat} {t9 : Nat} (hP : va_P D vwCl (w0L y q1 q3 u2 u4) H) : va_at D vwCl (ad0 q1 q3 u2 u4 t9 84, wE y (ad0 q1 q3 u2 u4 t9) M0 84) H := hP 84 _ rfl
set_option maxRecDepth 100000 in
theorem w0_85 {D : va_G} {y : wY} {H : Heap} {q1 : Nat} {q3 : Nat} {u2 : Nat → Nat} {u4 : Nat → Nat} {t9 : Nat} (hP : va_P D vwCl (w0L y q1 q3 u2 u4) H) : va_at D vwCl (ad0 q1 q3 u2 u4 t9 85, wE y (ad0 q1 q3 u2 u4 t9) M0 85) H := hP 85 _ rfl
set_option maxRecDepth 100000 in
theorem w0_86 {D : va_G} {y : wY} {H : Heap} {q1 : Nat} {q3 : Nat} {u2 : Nat → Nat} {u4 : Nat → Nat} {t9 : Nat} (hP : va_P D vwCl (w0L y q1 q3 u2 u4) H) : va_at D vwCl (ad0 q1 q3 u2 u4 t9 86, wE y (ad0 q1 q3 u2 u4 t9) M0 86) H := hP 86 _ rfl
set_option maxRecDepth 100000 in
theorem w0_87 {D : va_G} {y : wY} {H : Heap} {q1 : Nat} {q3 : Nat} {u2 : Nat → Nat} {u4 : Nat → Nat} {t9 : Nat} (hP : va_P D vwCl (w0L y q1 q3 u2 u4) H) : va_at D vwCl (ad0 q1 q3 u2 u4 t9 87, wE y (ad0 q1 q3 u2 u4 t9) M0 87) H := hP 87 _ rfl
set_option maxRecDepth 100000 in
theorem w0_88 {D : va_G} {y : wY} {H : Heap} {q1 : Nat} {q3 : Nat} {u2 : Nat → Nat} {u4 : Nat → Nat} {t9 : Nat} (hP : va_P D vwCl (w0L y q1 q3 u2 u4) H) : va_at D vwCl (ad0 q1 q3 u2 u4 t9 88, wE y (ad0 q1 q3 u2 u4 t9) M0 88) H := hP 88 _ rfl
set_option maxRecDepth 100000 in
theorem w0_89 {D : va_G} {y : wY} {H : Heap} {q1 : Nat} {q3 : Nat} {u2 : Nat → Nat} {u4 : Nat → Nat} {t9 : Nat} (hP : va_P D vwCl (w0L y q1 q3 u2 u4) H) : va_at D vwCl (ad0 q1 q3 u2 u4 t9 89, wE y (ad0 q1 q3 u2 u4 t9) M0 89) H := hP 89 _ rfl
set_option maxRecDepth 100000 in
theorem w0_90 {D : va_G} {y : wY} {H : Heap} {q1 : Nat} {q3 : Nat} {u2 : Nat → Nat} {u4 : Nat → Nat} {t9 : Nat} (hP : va_P D vwCl (w0L y q1 q3 u2 u4) H) : va_at D vwCl (ad0 q1 q3 u2 u4 t9 90, wE y (ad0 q1 q3 u2 u4 t9) M0 90) H := hP 90 _ rfl
set_option maxRecDepth 100000 in
theorem w0_91 {D : va_G} {y : wY} {H : Heap} {q1 : Nat} {q3 : Nat} {u2 : Nat → Nat} {u4 : Nat → Nat} {t9 : Nat} (hP : va_P D vwCl (w0L y q1 q3 u2 u4) H) : va_at D vwCl (ad0 q1 q3 u2 u4 t9 91, wE y (ad0 q1 q3 u2 u4 t9) M0 91) H := hP 91 _ rfl
theorem PL_of {D : va_G} {y : wY} {ad : Nat → Nat} {M : Mem} {H : Heap} (h : ∀ i, i < 92 → va_at D vwCl (ad i, wE y ad M i) H) : va_P D vwCl (PL y ad M) H := by
  intro k q hk
  rcases Nat.lt_or_ge k 92 with h1 | h1
  · rw [PL_get h1] at hk
    cases hk
    exact h k h1
  · rw [List.getElem?_eq_none (by simpa [PL] using h1)] at hk; cases hk
theorem D_addr {A : Nat → Prop} {w1 w2 : va_W} (h : w1.map Prod.fst = w2.map Prod.fst) (hD : va_D A w1) : va_D A w2 := by
  have tr : ∀ (k : Nat) (q : Nat × va_E), w2[k]? = some q → ∃ e, w1[k]? = some (q.1, e) := by
    intro k q hq
    have h2 : (w1.map Prod.fst)[k]? = some q.1 := by rw [h, List.getElem?_map, hq]; rfl
    rw [List.getElem?_map] at h2
    cases hw : w1[k]? with
    | none => rw [hw] at h2; cases h2
    | some r => rw [hw] at h2; exact ⟨r.2, by rw [← Option.some.inj h2]⟩
  refine ⟨fun i j p q hp hq hpq => ?_, fun k q hq => ?_⟩
  · obtain ⟨e1, h1⟩ := tr i p hp
    obtain ⟨e2, h2⟩ := tr j q hq
    exact hD.1 i j (p.1, e1) (q.1, e2) h1 h2 hpq
  · obtain ⟨e, h1⟩ := tr k q hq
    exact hD.2 k (q.1, e) h1
theorem lt92 {P : Nat → Prop} (h0 : P 0) (h1 : P 1) (h2 : P 2) (h3 : P 3) (h4 : P 4) (h5 : P 5) (h6 : P 6) (h7 : P 7) (h8 : P 8) (h9 : P 9) (h10 : P 10) (h11 : P 11) (h12 : P 12) (h13 : P 13) (h14 : P 14) (h15 : P 15) (h16 : P 16) (h17 : P 17) (h18 : P 18) (h19 : P 19) (h20 : P 20) (h21 : P 21) (h22 : P 22) (h23 : P 23) (h24 : P 24) (h25 : P 25) (h26 : P 26) (h27 : P 27) (h28 : P 28) (h29 : P 29) (h30 : P 30) (h31 : P 31) (h32 : P 32) (h33 : P 33) (h34 : P 34) (h35 : P 35) (h36 : P 36) (h37 : P 37) (h38 : P 38) (h39 : P 39) (h40 : P 40) (h41 : P 41) (h42 : P 42) (h43 : P 43) (h44 : P 44) (h45 : P 45) (h46 : P 46) (h47 : P 47) (h48 : P 48) (h49 : P 49) (h50 : P 50) (h51 : P 51) (h52 : P 52) (h53 : P 53) (h54 : P 54) (h55 : P 55) (h56 : P 56) (h57 : P 57) (h58 : P 58) (h59 : P 59) (h60 : P 60) (h61 : P 61) (h62 : P 62) (h63 : P 63) (h64 : P 64) (h65 : P 65) (h66 : P 66) (h67 : P 67) (h68 : P 68) (h69 : P 69) (h70 : P 70) (h71 : P 71) (h72 : P 72) (h73 : P 73) (h74 : P 74) (h75 : P 75) (h76 : P 76) (h77 : P 77) (h78 : P 78) (h79 : P 79) (h80 : P 80) (h81 : P 81) (h82 : P 82) (h83 : P 83) (h84 : P 84) (h85 : P 85) (h86 : P 86) (h87 : P 87) (h88 : P 88) (h89 : P 89) (h90 : P 90) (h91 : P 91) : ∀ i, i < 92 → P i := by
  intro i hi
  match i, hi with
  | 0, _ => exact h0
  | 1, _ => exact h1
  | 2, _ => exact h2
  | 3, _ => exact h3
  | 4, _ => exact h4
  | 5, _ => exact h5
  | 6, _ => exact h6
  | 7, _ => exact h7
  | 8, _ => exact h8
  | 9, _ => exact h9
  | 10, _ => exact h10
  | 11, _ => exact h11
  | 12, _ => exact h12
  | 13, _ => exact h13
  | 14, _ => exact h14
  | 15, _ => exact h15
  | 16, _ => exact h16
  | 17, _ => exact h17
  | 18, _ => exact h18
  | 19, _ => exact h19
  | 20, _ => exact h20
  | 21, _ => exact h21
  | 22, _ => exact h22
  | 23, _ => exact h23
  | 24, _ => exact h24
  | 25, _ => exact h25
  | 26, _ => exact h26
  | 27, _ => exact h27
  | 28, _ => exact h28
  | 29, _ => exact h29
  | 30, _ => exact h30
  | 31, _ => exact h31
  | 32, _ => exact h32
  | 33, _ => exact h33
  | 34, _ => exact h34
  | 35, _ => exact h35
  | 36, _ => exact h36
  | 37, _ => exact h37
  | 38, _ => exact h38
  | 39, _ => exact h39
  | 40, _ => exact h40
  | 41, _ => exact h41
  | 42, _ => exact h42
  | 43, _ => exact h43
  | 44, _ => exact h44
  | 45, _ => exact h45
  | 46, _ => exact h46
  | 47, _ => exact h47
  | 48, _ => exact h48
  | 49, _ => exact h49
  | 50, _ => exact h50
  | 51, _ => exact h51
  | 52, _ => exact h52
  | 53, _ => exact h53
  | 54, _ => exact h54
  | 55, _ => exact h55
  | 56, _ => exact h56
  | 57, _ => exact h57
  | 58, _ => exact h58
  | 59, _ => exact h59
  | 60, _ => exact h60
  | 61, _ => exact h61
  | 62, _ => exact h62
  | 63, _ => exact h63
  | 64, _ => exact h64
  | 65, _ => exact h65
  | 66, _ => exact h66
  | 67, _ => exact h67
  | 68, _ => exact h68
  | 69, _ => exact h69
  | 70, _ => exact h70
  | 71, _ => exact h71
  | 72, _ => exact h72
  | 73, _ => exact h73
  | 74, _ => exact h74
  | 75, _ => exact h75
  | 76, _ => exact h76
  | 77, _ => exact h77
  | 78, _ => exact h78
  | 79, _ => exact h79
  | 80, _ => exact h80
  | 81, _ => exact h81
  | 82, _ => exact h82
  | 83, _ => exact h83
  | 84, _ => exact h84
  | 85, _ => exact h85
  | 86, _ => exact h86
  | 87, _ => exact h87
  | 88, _ => exact h88
  | 89, _ => exact h89
  | 90, _ => exact h90
  | 91, _ => exact h91
  | n + 92, h => exact absurd h (by omega)
set_option maxRecDepth 100000 in
set_option maxHeartbeats 40000000 in
theorem w0_P {D : va_G} {y : wY} {H : Heap} {q1 : Nat} {q3 : Nat} {u2 : Nat → Nat} {u4 : Nat → Nat} {t9 : Nat} (hP : va_P D vwCl (w0L y q1 q3 u2 u4) H) : va_P D vwCl (PL y (ad0 q1 q3 u2 u4 t9) M0) H := PL_of (lt92 (w0_0 hP) (w0_1 hP) (w0_2 hP) (w0_3 hP) (w0_4 hP) (w0_5 hP) (w0_6 hP) (w0_7 hP) (w0_8 hP) (w0_9 hP) (w0_10 hP) (w0_11 hP) (w0_12 hP) (w0_13 hP) (w0_14 hP) (w0_15 hP) (w0_16 hP) (w0_17 hP) (w0_18 hP) (w0_19 hP) (w0_20 hP) (w0_21 hP) (w0_22 hP) (w0_23 hP) (w0_24 hP) (w0_25 hP) (w0_26 hP) (w0_27 hP) (w0_28 hP) (w0_29 hP) (w0_30 hP) (w0_31 hP) (w0_32 hP) (w0_33 hP) (w0_34 hP) (w0_35 hP) (w0_36 hP) (w0_37 hP) (w0_38 hP) (w0_39 hP) (w0_40 hP) (w0_41 hP) (w0_42 hP) (w0_43 hP) (w0_44 hP) (w0_45 hP) (w0_46 hP) (w0_47 hP) (w0_48 hP) (w0_49 hP) (w0_50 hP) (w0_51 hP) (w0_52 hP) (w0_53 hP) (w0_54 hP) (w0_55 hP) (w0_56 hP) (w0_57 hP) (w0_58 hP) (w0_59 hP) (w0_60 hP) (w0_61 hP) (w0_62 hP) (w0_63 hP) (w0_64 hP) (w0_65 hP) (w0_66 hP) (w0_67 hP) (w0_68 hP) (w0_69 hP) (w0_70 hP) (w0_71 hP) (w0_72 hP) (w0_73 hP) (w0_74 hP) (w0_75 hP) (w0_76 hP) (w0_77 hP) (w0_78 hP) (w0_79 hP) (w0_80 hP) (w0_81 hP) (w0_82 hP) (w0_83 hP) (w0_84 hP) (w0_85 hP) (w0_86 hP) (w0_87 hP) (w0_88 hP) (w0_89 hP) (w0_90 hP) (w0_91 hP))
set_option maxRecDepth 100000 in
set_option maxHeartbeats 40000000 in
theorem w0_D {A : Nat → Prop} {y : wY} {q1 : Nat} {q3 : Nat} {u2 : Nat → Nat} {u4 : Nat → Nat} {t9 : Nat} (hD : va_D A (w0L y q1 q3 u2 u4)) : va_D A (PL y (ad0 q1 q3 u2 u4 t9) M0) := D_addr (w1 := [(q1, .inr (7, [.ref (u2 0), .ref (u2 24), .ref (u2 48), .ref (u2 59), .ref (u2 66), .ref (u2 68), .ref (u2 69), .int 0])), ((u2 0), .inr (6, [.ref (u2 22), .ref (u2 23), .ref (u2 9), .ref (u2 20), .ref (u2 21), .int 0, .int 0, .int 1])), ((u2 22), .inr (4, [.ref (u2 1), .ref (u2 2), .ref (u2 3), .ref (u2 4), .int 0, .int 0])), ((u2 1), .inl (y.1, 50, .inl (fun _ => 0))), ((u2 2), .inl (y.1, 50, .inl (fun _ => 0))), ((u2 3), .inl (y.1, 50, .inl (fun _ => 0))), ((u2 4), .inl (y.1, 50, .inl (fun _ => 0))), ((u2 23), .inr (4, [.ref (u2 5), .ref (u2 6), .ref (u2 7), .ref (u2 8), .int 1, .int 0])), ((u2 5), .inl (y.1, 50, .inl (fun _ => 0))), ((u2 6), .inl (y.1, 50, .inl (fun _ => 0))), ((u2 7), .inl (y.1, 50, .inl (fun _ => 0))), ((u2 8), .inl (y.1, 50, .inl (fun _ => 0))), ((u2 9), .inr (0, [.ref (u2 22), .ref (u2 23), .ref (u2 10), .int 0, .int 0, .int 1, .int 0, .int 0, .int 0])), ((u2 10), .inl (y.2.1, 9, .inr (.inr (.inr (.inr (va_up (va_up (va_up (va_up (va_up (va_up (va_up (va_up (va_up (fun _ => none) 0 (some (u2 11))) 1 (some (u2 12))) 2 (some (u2 13))) 3 (some (u2 14))) 4 (some (u2 15))) 5 (some (u2 16))) 6 (some (u2 17))) 7 (some (u2 18))) 8 (some (u2 19)))))))), ((u2 11), .inr (1, [.int 0, .int 0, .int 0, .int 0, .int 0, .int 0, .int 0])), ((u2 12), .inr (1, [.int 0, .int 0, .int 0, .int 0, .int 0, .int 0, .int 0])), ((u2 13), .inr (1, [.int 0, .int 0, .int 0, .int 0, .int 0, .int 0, .int 0])), ((u2 14), .inr (1, [.int 0, .int 0, .int 0, .int 0, .int 0, .int 0, .int 0])), ((u2 15), .inr (1, [.int 0, .int 0, .int 0, .int 0, .int 0, .int 0, .int 0])), ((u2 16), .inr (1, [.int 0, .int 0, .int 0, .int 0, .int 0, .int 0, .int 0])), ((u2 17), .inr (1, [.int 0, .int 0, .int 0, .int 0, .int 0, .int 0, .int 0])), ((u2 18), .inr (1, [.int 0, .int 0, .int 0, .int 0, .int 0, .int 0, .int 0])), ((u2 19), .inr (1, [.int 0, .int 0, .int 0, .int 0, .int 0, .int 0, .int 0])), ((u2 20), .inl (y.1, 50, .inl (fun _ => 0))), ((u2 21), .inl (y.1, 20, .inl (fun _ => 0))), ((u2 24), .inr (6, [.ref (u2 46), .ref (u2 47), .ref (u2 33), .ref (u2 44), .ref (u2 45), .int 0, .int 0, .int 1])), ((u2 46), .inr (4, [.ref (u2 25), .ref (u2 26), .ref (u2 27), .ref (u2 28), .int 0, .int 0])), ((u2 25), .inl (y.1, 50, .inl (fun _ => 0))), ((u2 26), .inl (y.1, 50, .inl (fun _ => 0))), ((u2 27), .inl (y.1, 50, .inl (fun _ => 0))), ((u2 28), .inl (y.1, 50, .inl (fun _ => 0))), ((u2 47), .inr (4, [.ref (u2 29), .ref (u2 30), .ref (u2 31), .ref (u2 32), .int 1, .int 0])), ((u2 29), .inl (y.1, 50, .inl (fun _ => 0))), ((u2 30), .inl (y.1, 50, .inl (fun _ => 0))), ((u2 31), .inl (y.1, 50, .inl (fun _ => 0))), ((u2 32), .inl (y.1, 50, .inl (fun _ => 0))), ((u2 33), .inr (0, [.ref (u2 46), .ref (u2 47), .ref (u2 34), .int 0, .int 0, .int 1, .int 0, .int 0, .int 0])), ((u2 34), .inl (y.2.1, 9, .inr (.inr (.inr (.inr (va_up (va_up (va_up (va_up (va_up (va_up (va_up (va_up (va_up (fun _ => none) 0 (some (u2 35))) 1 (some (u2 36))) 2 (some (u2 37))) 3 (some (u2 38))) 4 (some (u2 39))) 5 (some (u2 40))) 6 (some (u2 41))) 7 (some (u2 42))) 8 (some (u2 43)))))))), ((u2 35), .inr (1, [.int 0, .int 0, .int 0, .int 0, .int 0, .int 0, .int 0])), ((u2 36), .inr (1, [.int 0, .int 0, .int 0, .int 0, .int 0, .int 0, .int 0])), ((u2 37), .inr (1, [.int 0, .int 0, .int 0, .int 0, .int 0, .int 0, .int 0])), ((u2 38), .inr (1, [.int 0, .int 0, .int 0, .int 0, .int 0, .int 0, .int 0])), ((u2 39), .inr (1, [.int 0, .int 0, .int 0, .int 0, .int 0, .int 0, .int 0])), ((u2 40), .inr (1, [.int 0, .int 0, .int 0, .int 0, .int 0, .int 0, .int 0])), ((u2 41), .inr (1, [.int 0, .int 0, .int 0, .int 0, .int 0, .int 0, .int 0])), ((u2 42), .inr (1, [.int 0, .int 0, .int 0, .int 0, .int 0, .int 0, .int 0])), ((u2 43), .inr (1, [.int 0, .int 0, .int 0, .int 0, .int 0, .int 0, .int 0])), ((u2 44), .inl (y.1, 50, .inl (fun _ => 0))), ((u2 45), .inl (y.1, 20, .inl (fun _ => 0))), ((u2 48), .inr (0, [.ref (u2 22), .ref (u2 23), .ref (u2 49), .int 0, .int 0, .int 1, .int 0, .int 0, .int 0])), ((u2 49), .inl (y.2.1, 9, .inr (.inr (.inr (.inr (va_up (va_up (va_up (va_up (va_up (va_up (va_up (va_up (va_up (fun _ => none) 0 (some (u2 50))) 1 (some (u2 51))) 2 (some (u2 52))) 3 (some (u2 53))) 4 (some (u2 54))) 5 (some (u2 55))) 6 (some (u2 56))) 7 (some (u2 57))) 8 (some (u2 58)))))))), ((u2 50), .inr (1, [.int 0, .int 0, .int 0, .int 0, .int 0, .int 0, .int 0])), ((u2 51), .inr (1, [.int 0, .int 0, .int 0, .int 0, .int 0, .int 0, .int 0])), ((u2 52), .inr (1, [.int 0, .int 0, .int 0, .int 0, .int 0, .int 0, .int 0])), ((u2 53), .inr (1, [.int 0, .int 0, .int 0, .int 0, .int 0, .int 0, .int 0])), ((u2 54), .inr (1, [.int 0, .int 0, .int 0, .int 0, .int 0, .int 0, .int 0])), ((u2 55), .inr (1, [.int 0, .int 0, .int 0, .int 0, .int 0, .int 0, .int 0])), ((u2 56), .inr (1, [.int 0, .int 0, .int 0, .int 0, .int 0, .int 0, .int 0])), ((u2 57), .inr (1, [.int 0, .int 0, .int 0, .int 0, .int 0, .int 0, .int 0])), ((u2 58), .inr (1, [.int 0, .int 0, .int 0, .int 0, .int 0, .int 0, .int 0])), ((u2 59), .inr (2, [.ref (u2 60), .ref (u2 65), .int 0, .int 0, .int 0])), ((u2 60), .inr (4, [.ref (u2 61), .ref (u2 62), .ref (u2 63), .ref (u2 64), .int 0, .int 0])), ((u2 61), .inl (y.1, 50, .inl (fun _ => 0))), ((u2 62), .inl (y.1, 50, .inl (fun _ => 0))), ((u2 63), .inl (y.1, 50, .inl (fun _ => 0))), ((u2 64), .inl (y.1, 50, .inl (fun _ => 0))), ((u2 65), .inl (y.1, 50, .inl (fun _ => 0))), ((u2 66), .inr (5, [.ref (u2 67), .int 0, .int 0, .int 0, .int 0])), ((u2 67), .inl (y.1, 40, .inl (fun _ => 0))), ((u2 68), .inl (y.2.2, 4, .inr (.inr (.inr (.inr (va_up (va_up (va_up (va_up (fun _ => none) 0 (some (u2 70))) 1 (some (u2 72))) 2 (some (u2 74))) 3 (some (u2 76)))))))), ((u2 70), .inr (3, [.ref (u2 71), .int 0, .int 0])), ((u2 71), .inl (y.1, 40, .inl (fun _ => 0))), ((u2 72), .inr (3, [.ref (u2 73), .int 0, .int 0])), ((u2 73), .inl (y.1, 40, .inl (fun _ => 0))), ((u2 74), .inr (3, [.ref (u2 75), .int 0, .int 0])), ((u2 75), .inl (y.1, 40, .inl (fun _ => 0))), ((u2 76), .inr (3, [.ref (u2 77), .int 0, .int 0])), ((u2 77), .inl (y.1, 40, .inl (fun _ => 0))), ((u2 69), .inl (y.1, 6, .inl (fun _ => 0))), (q3, .inr (8, [.ref (u4 0), .ref (u4 1), .ref (u4 2), .int 0, .int 0, .ref (u4 3), .int 0, .int 0, .int 0, .int 0, .int 0, .int 0, .ref (u4 4), .ref (u4 5), .ref (u4 6), .ref (u4 7), .ref (u4 8), .ref (u4 9), .ref (u4 10), .ref (u4 11), .int 0, .int 0, .int 0, .int 0])), ((u4 0), .inl (y.1, 244, .inl (upd (upd (upd (upd (fun _ => 0) 1 1) 8 1) 5 (-1)) 6 (-1)))), ((u4 1), .inl (y.1, 244, .inl (fun _ => 0))), ((u4 2), .inl (y.1, 244, .inl (fun _ => 0))), ((u4 3), .inl (y.1, 6, .inl (fun _ => 0))), ((u4 4), .inl (y.1, 50, .inl (fun _ => 0))), ((u4 5), .inl (y.1, 50, .inl (fun _ => 0))), ((u4 6), .inl (y.1, 3, .inl (fun _ => 0))), ((u4 7), .inl (y.1, 4, .inl (fun _ => 0))), ((u4 8), .inl (y.1, 4, .inl (fun _ => 0))), ((u4 9), .inl (y.1, 160, .inl (fun _ => 0))), ((u4 10), .inl (y.1, 40, .inl (fun _ => 0))), ((u4 11), .inl (y.1, 40, .inl (fun _ => 0)))]) rfl (hD.sub [0, 1, 23, 2, 3, 4, 5, 24, 6, 7, 8, 9, 10, 11, 12, 13, 14, 15, 16, 17, 18, 19, 20, 21, 22, 25, 47, 26, 27, 28, 29, 48, 30, 31, 32, 33, 34, 35, 36, 37, 38, 39, 40, 41, 42, 43, 44, 45, 46, 49, 50, 51, 52, 53, 54, 55, 56, 57, 58, 59, 60, 61, 62, 63, 64, 65, 66, 67, 68, 69, 71, 72, 73, 74, 75, 76, 77, 78, 70, 79, 80, 81, 82, 83, 84, 85, 86, 87, 88, 89, 90, 91] (by decide +kernel) rfl)
theorem yI_of {args : Array Value} {s : State} (h : (Cond.arrayClass .int).before args s = true) : ∃ c : ClassId, ArrOfT s c .int ∧ va_RA s c .int := by
  obtain ⟨c, kk, comp, h1, h2, h3⟩ := Cond.arrayClass_spec h
  exact ⟨c, fun n z => ⟨fun k h => (by cases h), kk, h2, comp, h3⟩, h1⟩
theorem yO_of {args : Array Value} {s : State} {C : String} (h : (Cond.arrayOver (.object C)).before args s = true) : ∃ c : ClassId, ArrOfT s c (.object C) ∧ va_RA s c (.object C) := by
  obtain ⟨comp, c, kk, h1, h2, h3, h4, h5⟩ := Cond.arrayOver_spec h
  exact ⟨c, fun n z => ⟨fun k h => (by cases h), kk, h3, comp, h4⟩, kk, comp, h3, h4, h1, h5⟩
theorem eq_val {args : Array Value} {s : State} {T : Term} {z : Int32} (h : (Cond.eq T (.int z)).before args s = true) : T.eval args s none [] s = some (.int z) := by
  cases hv : T.eval args s none [] s with
  | none => simp [Cond.before, Cond.holds, Cond.value, hv] at h
  | some w =>
    have hz : (Term.int z).eval args s none [] s = some (.int z) := rfl
    simp only [Cond.before, Cond.holds, Cond.value, hv, hz] at h
    cases w <;> simp_all
theorem el_val {args : Array Value} {s : State} {T : Term} {a : Nat} {cell : Cell} (ht : T.eval args s none [] s = some (.ref a)) (harr : s.arrayAt? a = some cell) {j z : Int32} (h : (Cond.eq (.elem T (.int j)) (.int z)).before args s = true) : cell.slots[j.toNatClampNeg]? = some (.int z) := by
  obtain ⟨a', j', cell', ht', hj', harr', -, hs⟩ := Term.elem_spec (eq_val h)
  cases ht.symm.trans ht'
  cases harr.symm.trans harr'
  cases (show some (Value.int j) = some (Value.int j') from hj')
  exact hs
abbrev KAt : Term := .static "KnivesGround" "KIND_ABOVE" "[I"
theorem len_small {args : Array Value} {s : State} {T : Term} {v : Value} (h : (Term.length T).eval args s none [] s = some v) : ∃ a cell, T.eval args s none [] s = some (.ref a) ∧ s.arrayAt? a = some cell ∧ v = .int cell.slots.size.toInt32 ∧ cell.slots.size < 2 ^ 31 := by
  obtain ⟨a, cell, ht, harr, hv⟩ := Term.length_spec h
  refine ⟨a, cell, ht, harr, hv, ?_⟩
  simp only [Term.eval, ht, harr, Option.bind_eq_bind, Option.bind_some] at h
  by_cases hlt : cell.slots.size < 2147483648
  · exact hlt
  · simp [hlt] at h
theorem Zs_of {args : Array Value} {s : State} (hl : (Cond.laysStatic "KnivesGround" "KIND_ABOVE" "[I").before args s = true) (hini : (Cond.initialized "KnivesGround").before args s = true) (h1 : (Cond.arrayOf KAt .int).before args s = true) (h2 : (Cond.eq (.length KAt) (.int 7)).before args s = true) (e0 : (Cond.eq (.elem KAt (.int 0)) (.int (-1))).before args s = true) (e1 : (Cond.eq (.elem KAt (.int 1)) (.int 0)).before args s = true) (e2 : (Cond.eq (.elem KAt (.int 2)) (.int 0)).before args s = true) (e3 : (Cond.eq (.elem KAt (.int 3)) (.int 0)).before args s = true) (e4 : (Cond.eq (.elem KAt (.int 4)) (.int 1)).before args s = true) (e5 : (Cond.eq (.elem KAt (.int 5)) (.int 2)).before args s = true) (e6 : (Cond.eq (.elem KAt (.int 6)) (.int 3)).before args s = true) : ∃ t : Nat, va_Z "KnivesGround" "KIND_ABOVE" "[I" (.ref t) (fun q : Nat => s.heap.size ≤ q) s s.heap ∧ va_X t 7 KAf s s.heap ∧ t < s.heap.size ∧ ¬ s.heap.size ≤ t := by
  obtain ⟨a, cell, ht, harr, hsz, hsm⟩ := len_small (eq_val h2)
  obtain ⟨hcell, hkn, -, -⟩ := State.arrayAt?_spec harr
  have hof := (Cond.arrayOf_spec h1 ht hcell).1
  have hlt : a < s.heap.size := (Array.getElem?_eq_some_iff.mp hcell).1
  have hs7 : cell.slots.size = 7 := by
    have h3 : nI 7 = nI cell.slots.size := by injection hsz
    exact ((nI_eq (by omega) hsm).mp h3).symm
  refine ⟨a, va_Zof hl hini ht (fun q h => Nat.not_le.mpr h), ⟨cell, hcell, hof, hkn, hs7, fun j hj => ?_⟩, hlt, Nat.not_le.mpr hlt⟩
  rcases (by omega : j = 0 ∨ j = 1 ∨ j = 2 ∨ j = 3 ∨ j = 4 ∨ j = 5 ∨ j = 6) with rfl | rfl | rfl | rfl | rfl | rfl | rfl
  · exact el_val ht harr e0
  · exact el_val ht harr e1
  · exact el_val ht harr e2
  · exact el_val ht harr e3
  · exact el_val ht harr e4
  · exact el_val ht harr e5
  · exact el_val ht harr e6
theorem TX_M0 {t : Nat} (h : M0 t 5 = 0) : TX t M0 := ⟨0, Nat.zero_le _, h, fun j hj => absurd hj (Nat.not_lt_zero j)⟩
theorem WK1_M0 : WK 1 0 0 0 M0 := ⟨Nat.zero_le _, Nat.zero_le _, Nat.zero_le _, rfl, rfl, rfl, fun q hq => absurd hq (Nat.not_lt_zero q), TX_M0 rfl, TX_M0 rfl⟩
theorem WK25_M0 : WK 25 0 0 0 M0 := ⟨Nat.zero_le _, Nat.zero_le _, Nat.zero_le _, rfl, rfl, rfl, fun q hq => absurd hq (Nat.not_lt_zero q), TX_M0 rfl, TX_M0 rfl⟩
theorem SH_M0 : SH M0 := by
  intro j hj
  rcases (by omega : j = 0 ∨ j = 1 ∨ j = 2 ∨ j = 3) with rfl | rfl | rfl | rfl
  · exact ⟨0, Nat.zero_le _, rfl, rfl, rfl, fun _ _ => rfl⟩
  · exact ⟨0, Nat.zero_le _, rfl, rfl, rfl, fun _ _ => rfl⟩
  · exact ⟨0, Nat.zero_le _, rfl, rfl, rfl, fun _ _ => rfl⟩
  · exact ⟨0, Nat.zero_le _, rfl, rfl, rfl, fun _ _ => rfl⟩
theorem RO_M0 : RO 0 (M0 80) := ⟨Nat.zero_le _, rfl, fun q hq => absurd hq (Nat.not_lt_zero q), Or.inl rfl, Or.inl rfl⟩
theorem RW2_M0 : RW2 1 80 0 M0 := ⟨rfl, rfl, rfl, rfl, fun q hq => absurd hq (Nat.not_lt_zero q)⟩
theorem Inv_M0 : Inv 0 M0 := ⟨⟨rfl, rfl, rfl, rfl, rfl, rfl, rfl⟩, ⟨0, 0, 0, WK1_M0, RO_M0, RW2_M0⟩, SH_M0, ⟨0, Nat.zero_le _, rfl, rfl, fun k hk => absurd hk (Nat.not_lt_zero k)⟩, ⟨0, 0, 0, 0, Nat.le_refl 0, rfl, rfl, fun _ => rfl, fun h => absurd rfl h, WK25_M0, fun h => absurd rfl h⟩⟩
theorem SA_M0 : SA 1 80 0 0 0 (fun k => if k = 8 then 1 else 0) (fun _ => -1) M0 := by
  refine ⟨⟨rfl, rfl, rfl, rfl, rfl, fun q hq => absurd hq (Nat.not_lt_zero q)⟩, rfl, ⟨rfl, fun q hq => absurd hq (Nat.not_lt_zero q), fun k hk => ?_⟩, ⟨by decide, by decide, by decide, by decide, by decide, by decide, fun q hq => absurd hq (Nat.not_lt_zero q)⟩, by decide, fun q hq => absurd hq (Nat.not_lt_zero q), ⟨rfl, Or.inl ⟨rfl, rfl⟩⟩, ⟨rfl, Or.inl ⟨rfl, rfl⟩⟩, ⟨by decide, rfl, rfl⟩, ⟨by decide, rfl, rfl⟩, rfl, fun j hj => absurd hj (Nat.not_lt_zero j), fun j hj => absurd hj (Nat.not_lt_zero j)⟩
  rcases hk with rfl | h | ⟨q, w, q1, -⟩
  · rfl
  · rcases (by omega : k = 7 ∨ k = 8 ∨ k = 9 ∨ k = 10) with rfl | rfl | rfl | rfl <;> rfl
  · exact absurd q1 (Nat.not_lt_zero q)
theorem Inv2_M0 : Inv2 0 M0 := by
  obtain ⟨h1, h2, h3, h4, m, n, b, t, g1, g2, g3, g4, g5, g6, g7⟩ := Inv_M0
  have hm : m = 0 := by omega
  exact ⟨h1, ⟨0, 0, 0, _, _, SA_M0⟩, h3, h4, ⟨m, n, b, t, g1, g2, g3, g4, g5, g6, fun e => absurd hm e⟩⟩
