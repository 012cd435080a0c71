/-! an instruction's bytes, looked up fast -/
noncomputable def bL (c : ByteArray) (p : Nat) : List UInt8 := Nat.rec c.data.toList (fun _ t => t.tail) p
theorem bL_s (c : ByteArray) (p : Nat) : bL c (p + 1) = (bL c p).tail := rfl
theorem bL_drop (c : ByteArray) (p : Nat) : bL c p = c.data.toList.drop p := by
  induction p with
  | zero => rfl
  | succ n ih => rw [bL_s, ih, List.tail_drop]
theorem bL_get {c : ByteArray} {p : Nat} {a : UInt8} {r : List UInt8} (e : bL c p = a :: r) : ∃ h : p < c.size, c[p] = a := by
  rw [bL_drop] at e
  have e1 : (c.data.toList.drop p)[0]? = some a := by rw [e]; rfl
  rw [List.getElem?_drop, Nat.add_zero] at e1
  obtain ⟨h, e2⟩ := List.getElem?_eq_some_iff.mp e1
  exact ⟨h, e2⟩
theorem rd_u1 {c : ByteArray} {p : Nat} {a : UInt8} {r : List UInt8} (e : bL c p = a :: r) : (Jvm.ClassFile.Reader.u1 : Jvm.ClassFile.Decoder Nat).runAt c p = .ok (a.toNat, p + 1) := by
  obtain ⟨h, e2⟩ := bL_get e
  subst e2
  have e3 : (Jvm.ClassFile.Reader.u1 : Jvm.ClassFile.Decoder Nat).runAt c p = (dite (p < c.size) (fun h => (fun _ (q : Nat) => .ok (c[p].toNat, q + 1) : Jvm.ClassFile.Decoder Nat)) (fun _ => (fun _ q => .error (.truncated q) : Jvm.ClassFile.Decoder Nat))) c p := by
    unfold Jvm.ClassFile.Reader.runAt Jvm.ClassFile.Reader.u1
    rw [dif_pos h]
    show (dite (p < c.size) _ _ : Jvm.ClassFile.Decoder Nat) c p = _
    rw [dif_pos h]; rfl
  rw [e3, dif_pos h]
theorem rd_bind {α β : Type} {x : Jvm.ClassFile.Decoder α} {f : α → Jvm.ClassFile.Decoder β} {c : ByteArray} {p q : Nat} {a : α} (h : x.runAt c p = .ok (a, q)) : (x >>= f).runAt c p = (f a).runAt c q := by
  have e : (x >>= f).runAt c p = Except.bind (x.runAt c p) (fun r => (f r.1).runAt c r.2) := rfl
  rw [e, h]; rfl
theorem rd_map {α β : Type} {x : Jvm.ClassFile.Decoder α} {g : α → β} {c : ByteArray} {p q : Nat} {a : α} (h : x.runAt c p = .ok (a, q)) : (g <$> x).runAt c p = .ok (g a, q) := by
  have e : (g <$> x).runAt c p = Except.bind (x.runAt c p) (fun r => .ok (g r.1, r.2)) := by
    first
      | rfl
      | (show Except.map _ _ = _; cases x.runAt c p <;> rfl)
  rw [e, h]; rfl
theorem dk_of {c : ByteArray} {p q : Nat} {i : Instr} (h : (Jvm.ClassFile.Decoder.instr p).runAt c p = .ok (i, p + q)) : decode c p = .ok (i, q) := by
  have e : decode c p = Except.bind ((Jvm.ClassFile.Decoder.instr p).runAt c p) (fun r => .ok (r.1, r.2 - p)) := rfl
  rw [e, h]
  show Except.ok (i, p + q - p) = _
  rw [Nat.add_sub_cancel_left]
noncomputable def k0 (c : ByteArray) (p o : Nat) : Bool := match bL c p with
  | a :: _ => a.toNat == o
  | _ => false
noncomputable def k1 (c : ByteArray) (p o v : Nat) : Bool := match bL c p with
  | a :: b :: _ => a.toNat == o && b.toNat == v
  | _ => false
noncomputable def k2 (c : ByteArray) (p o v : Nat) : Bool := match bL c p with
  | a :: b :: d :: _ => a.toNat == o && b.toNat * 256 + d.toNat == v
  | _ => false
noncomputable def ks1 (c : ByteArray) (p o : Nat) (v : Int) : Bool := match bL c p with
  | a :: b :: _ => a.toNat == o && decide (Jvm.ClassFile.Reader.signed 8 b.toNat = v)
  | _ => false
noncomputable def ks2 (c : ByteArray) (p o : Nat) (v : Int) : Bool := match bL c p with
  | a :: b :: d :: _ => a.toNat == o && decide (Jvm.ClassFile.Reader.signed 16 (b.toNat * 256 + d.toNat) = v)
  | _ => false
noncomputable def kii (c : ByteArray) (p v : Nat) (w : Int) : Bool := match bL c p with
  | a :: b :: d :: _ => a.toNat == 132 && b.toNat == v && decide (Jvm.ClassFile.Reader.signed 8 d.toNat = w)
  | _ => false
theorem k0_u {c : ByteArray} {p o : Nat} (h : k0 c p o = true) : (Jvm.ClassFile.Reader.u1 : Jvm.ClassFile.Decoder Nat).runAt c p = .ok (o, p + 1) := by
  unfold k0 at h
  split at h
  · next a r e => rw [rd_u1 e, beq_iff_eq.mp h]
  · cases h
theorem k1_u {c : ByteArray} {p o v : Nat} (h : k1 c p o v = true) : (Jvm.ClassFile.Reader.u1 : Jvm.ClassFile.Decoder Nat).runAt c p = .ok (o, p + 1) ∧ (Jvm.ClassFile.Reader.u1 : Jvm.ClassFile.Decoder Nat).runAt c (p + 1) = .ok (v, p + 1 + 1) := by
  unfold k1 at h
  split at h
  · next a b r e =>
    have h := Bool.and_eq_true_iff.mp h
    rw [rd_u1 e, rd_u1 (a := b) (r := r) (by rw [bL_s, e]; rfl), beq_iff_eq.mp h.1, beq_iff_eq.mp h.2]
    exact ⟨rfl, rfl⟩
  · cases h
theorem rd_u2 {c : ByteArray} {p a b : Nat} (h1 : (Jvm.ClassFile.Reader.u1 : Jvm.ClassFile.Decoder Nat).runAt c p = .ok (a, p + 1)) (h2 : (Jvm.ClassFile.Reader.u1 : Jvm.ClassFile.Decoder Nat).runAt c (p + 1) = .ok (b, p + 1 + 1)) : (Jvm.ClassFile.Reader.u2 : Jvm.ClassFile.Decoder Nat).runAt c p = .ok (a * 256 + b, p + 1 + 1) := by
  unfold Jvm.ClassFile.Reader.u2
  rw [rd_bind h1, rd_bind h2]; rfl
theorem k2_u {c : ByteArray} {p o v : Nat} (h : k2 c p o v = true) : (Jvm.ClassFile.Reader.u1 : Jvm.ClassFile.Decoder Nat).runAt c p = .ok (o, p + 1) ∧ (Jvm.ClassFile.Reader.u2 : Jvm.ClassFile.Decoder Nat).runAt c (p + 1) = .ok (v, p + 1 + 1 + 1) := by
  unfold k2 at h
  split at h
  · next a b d r e =>
    have h := Bool.and_eq_true_iff.mp h
    have e1 : bL c (p + 1) = b :: d :: r := by rw [bL_s, e]; rfl
    have e2 : bL c (p + 1 + 1) = d :: r := by rw [bL_s, e1]; rfl
    rw [rd_u1 e, rd_u2 (rd_u1 e1) (rd_u1 e2), beq_iff_eq.mp h.1, beq_iff_eq.mp h.2]
    exact ⟨rfl, rfl⟩
  · cases h
theorem ks1_u {c : ByteArray} {p o : Nat} {v : Int} (h : ks1 c p o v = true) : (Jvm.ClassFile.Reader.u1 : Jvm.ClassFile.Decoder Nat).runAt c p = .ok (o, p + 1) ∧ (Jvm.ClassFile.Reader.s1 : Jvm.ClassFile.Decoder Int).runAt c (p + 1) = .ok (v, p + 1 + 1) := by
  unfold ks1 at h
  split at h
  · next a b r e =>
    have h := Bool.and_eq_true_iff.mp h
    have e1 : bL c (p + 1) = b :: r := by rw [bL_s, e]; rfl
    refine ⟨by rw [rd_u1 e, beq_iff_eq.mp h.1], ?_⟩
    unfold Jvm.ClassFile.Reader.s1
    rw [rd_map (rd_u1 e1), of_decide_eq_true h.2]
  · cases h
theorem ks2_u {c : ByteArray} {p o : Nat} {v : Int} (h : ks2 c p o v = true) : (Jvm.ClassFile.Reader.u1 : Jvm.ClassFile.Decoder Nat).runAt c p = .ok (o, p + 1) ∧ (Jvm.ClassFile.Reader.s2 : Jvm.ClassFile.Decoder Int).runAt c (p + 1) = .ok (v, p + 1 + 1 + 1) := by
  unfold ks2 at h
  split at h
  · next a b d r e =>
    have h := Bool.and_eq_true_iff.mp h
    have e1 : bL c (p + 1) = b :: d :: r := by rw [bL_s, e]; rfl
    have e2 : bL c (p + 1 + 1) = d :: r := by rw [bL_s, e1]; rfl
    refine ⟨by rw [rd_u1 e, beq_iff_eq.mp h.1], ?_⟩
    unfold Jvm.ClassFile.Reader.s2
    rw [rd_map (rd_u2 (rd_u1 e1) (rd_u1 e2)), of_decide_eq_true h.2]
  · cases h
theorem kii_u {c : ByteArray} {p v : Nat} {w : Int} (h : kii c p v w = true) : (Jvm.ClassFile.Reader.u1 : Jvm.ClassFile.Decoder Nat).runAt c p = .ok (132, p + 1) ∧ (Jvm.ClassFile.Reader.u1 : Jvm.ClassFile.Decoder Nat).runAt c (p + 1) = .ok (v, p + 1 + 1) ∧ (Jvm.ClassFile.Reader.s1 : Jvm.ClassFile.Decoder Int).runAt c (p + 1 + 1) = .ok (w, p + 1 + 1 + 1) := by
  unfold kii at h
  split at h
  · next a b d r e =>
    have h := Bool.and_eq_true_iff.mp h
    have h1 := Bool.and_eq_true_iff.mp h.1
    have e1 : bL c (p + 1) = b :: d :: r := by rw [bL_s, e]; rfl
    have e2 : bL c (p + 1 + 1) = d :: r := by rw [bL_s, e1]; rfl
    refine ⟨by rw [rd_u1 e, beq_iff_eq.mp h1.1], by rw [rd_u1 e1, beq_iff_eq.mp h1.2], ?_⟩
    unfold Jvm.ClassFile.Reader.s1
    rw [rd_map (rd_u1 e2), of_decide_eq_true h.2]
  · cases h

theorem dk_2 {c : ByteArray} {p : Nat} (h : k0 c p 2 = true) : decode c p = .ok (.iconst (-1), 1) := by
  refine dk_of ?_
  unfold Jvm.ClassFile.Decoder.instr
  rw [rd_bind (k0_u h)]; rfl
theorem dk_3 {c : ByteArray} {p : Nat} (h : k0 c p 3 = true) : decode c p = .ok (.iconst 0, 1) := by
  refine dk_of ?_
  unfold Jvm.ClassFile.Decoder.instr
  rw [rd_bind (k0_u h)]; rfl
theorem dk_4 {c : ByteArray} {p : Nat} (h : k0 c p 4 = true) : decode c p = .ok (.iconst 1, 1) := by
  refine dk_of ?_
  unfold Jvm.ClassFile.Decoder.instr
  rw [rd_bind (k0_u h)]; rfl
theorem dk_5 {c : ByteArray} {p : Nat} (h : k0 c p 5 = true) : decode c p = .ok (.iconst 2, 1) := by
  refine dk_of ?_
  unfold Jvm.ClassFile.Decoder.instr
  rw [rd_bind (k0_u h)]; rfl
theorem dk_6 {c : ByteArray} {p : Nat} (h : k0 c p 6 = true) : decode c p = .ok (.iconst 3, 1) := by
  refine dk_of ?_
  unfold Jvm.ClassFile.Decoder.instr
  rw [rd_bind (k0_u h)]; rfl
theorem dk_7 {c : ByteArray} {p : Nat} (h : k0 c p 7 = true) : decode c p = .ok (.iconst 4, 1) := by
  refine dk_of ?_
  unfold Jvm.ClassFile.Decoder.instr
  rw [rd_bind (k0_u h)]; rfl
theorem dk_8 {c : ByteArray} {p : Nat} (h : k0 c p 8 = true) : decode c p = .ok (.iconst 5, 1) := by
  refine dk_of ?_
  unfold Jvm.ClassFile.Decoder.instr
  rw [rd_bind (k0_u h)]; rfl
theorem dk_26 {c : ByteArray} {p : Nat} (h : k0 c p 26 = true) : decode c p = .ok (.iload_n 0, 1) := by
  refine dk_of ?_
  unfold Jvm.ClassFile.Decoder.instr
  rw [rd_bind (k0_u h)]; rfl
theorem dk_27 {c : ByteArray} {p : Nat} (h : k0 c p 27 = true) : decode c p = .ok (.iload_n 1, 1) := by
  refine dk_of ?_
  unfold Jvm.ClassFile.Decoder.instr
  rw [rd_bind (k0_u h)]; rfl
theorem dk_28 {c : ByteArray} {p : Nat} (h : k0 c p 28 = true) : decode c p = .ok (.iload_n 2, 1) := by
  refine dk_of ?_
  unfold Jvm.ClassFile.Decoder.instr
  rw [rd_bind (k0_u h)]; rfl
theorem dk_29 {c : ByteArray} {p : Nat} (h : k0 c p 29 = true) : decode c p = .ok (.iload_n 3, 1) := by
  refine dk_of ?_
  unfold Jvm.ClassFile.Decoder.instr
  rw [rd_bind (k0_u h)]; rfl
theorem dk_42 {c : ByteArray} {p : Nat} (h : k0 c p 42 = true) : decode c p = .ok (.aload_n 0, 1) := by
  refine dk_of ?_
  unfold Jvm.ClassFile.Decoder.instr
  rw [rd_bind (k0_u h)]; rfl
theorem dk_43 {c : ByteArray} {p : Nat} (h : k0 c p 43 = true) : decode c p = .ok (.aload_n 1, 1) := by
  refine dk_of ?_
  unfold Jvm.ClassFile.Decoder.instr
  rw [rd_bind (k0_u h)]; rfl
theorem dk_44 {c : ByteArray} {p : Nat} (h : k0 c p 44 = true) : decode c p = .ok (.aload_n 2, 1) := by
  refine dk_of ?_
  unfold Jvm.ClassFile.Decoder.instr
  rw [rd_bind (k0_u h)]; rfl
theorem dk_45 {c : ByteArray} {p : Nat} (h : k0 c p 45 = true) : decode c p = .ok (.aload_n 3, 1) := by
  refine dk_of ?_
  unfold Jvm.ClassFile.Decoder.instr
  rw [rd_bind (k0_u h)]; rfl
theorem dk_46 {c : ByteArray} {p : Nat} (h : k0 c p 46 = true) : decode c p = .ok (.iaload, 1) := by
  refine dk_of ?_
  unfold Jvm.ClassFile.Decoder.instr
  rw [rd_bind (k0_u h)]; rfl
theorem dk_50 {c : ByteArray} {p : Nat} (h : k0 c p 50 = true) : decode c p = .ok (.aaload, 1) := by
  refine dk_of ?_
  unfold Jvm.ClassFile.Decoder.instr
  rw [rd_bind (k0_u h)]; rfl
theorem dk_59 {c : ByteArray} {p : Nat} (h : k0 c p 59 = true) : decode c p = .ok (.istore_n 0, 1) := by
  refine dk_of ?_
  unfold Jvm.ClassFile.Decoder.instr
  rw [rd_bind (k0_u h)]; rfl
theorem dk_60 {c : ByteArray} {p : Nat} (h : k0 c p 60 = true) : decode c p = .ok (.istore_n 1, 1) := by
  refine dk_of ?_
  unfold Jvm.ClassFile.Decoder.instr
  rw [rd_bind (k0_u h)]; rfl
theorem dk_61 {c : ByteArray} {p : Nat} (h : k0 c p 61 = true) : decode c p = .ok (.istore_n 2, 1) := by
  refine dk_of ?_
  unfold Jvm.ClassFile.Decoder.instr
  rw [rd_bind (k0_u h)]; rfl
theorem dk_62 {c : ByteArray} {p : Nat} (h : k0 c p 62 = true) : decode c p = .ok (.istore_n 3, 1) := by
  refine dk_of ?_
  unfold Jvm.ClassFile.Decoder.instr
  rw [rd_bind (k0_u h)]; rfl
theorem dk_75 {c : ByteArray} {p : Nat} (h : k0 c p 75 = true) : decode c p = .ok (.astore_n 0, 1) := by
  refine dk_of ?_
  unfold Jvm.ClassFile.Decoder.instr
  rw [rd_bind (k0_u h)]; rfl
theorem dk_76 {c : ByteArray} {p : Nat} (h : k0 c p 76 = true) : decode c p = .ok (.astore_n 1, 1) := by
  refine dk_of ?_
  unfold Jvm.ClassFile.Decoder.instr
  rw [rd_bind (k0_u h)]; rfl
theorem dk_77 {c : ByteArray} {p : Nat} (h : k0 c p 77 = true) : decode c p = .ok (.astore_n 2, 1) := by
  refine dk_of ?_
  unfold Jvm.ClassFile.Decoder.instr
  rw [rd_bind (k0_u h)]; rfl
theorem dk_78 {c : ByteArray} {p : Nat} (h : k0 c p 78 = true) : decode c p = .ok (.astore_n 3, 1) := by
  refine dk_of ?_
  unfold Jvm.ClassFile.Decoder.instr
  rw [rd_bind (k0_u h)]; rfl
theorem dk_79 {c : ByteArray} {p : Nat} (h : k0 c p 79 = true) : decode c p = .ok (.iastore, 1) := by
  refine dk_of ?_
  unfold Jvm.ClassFile.Decoder.instr
  rw [rd_bind (k0_u h)]; rfl
theorem dk_87 {c : ByteArray} {p : Nat} (h : k0 c p 87 = true) : decode c p = .ok (.pop, 1) := by
  refine dk_of ?_
  unfold Jvm.ClassFile.Decoder.instr
  rw [rd_bind (k0_u h)]; rfl
theorem dk_89 {c : ByteArray} {p : Nat} (h : k0 c p 89 = true) : decode c p = .ok (.dup, 1) := by
  refine dk_of ?_
  unfold Jvm.ClassFile.Decoder.instr
  rw [rd_bind (k0_u h)]; rfl
theorem dk_92 {c : ByteArray} {p : Nat} (h : k0 c p 92 = true) : decode c p = .ok (.dup2, 1) := by
  refine dk_of ?_
  unfold Jvm.ClassFile.Decoder.instr
  rw [rd_bind (k0_u h)]; rfl
theorem dk_96 {c : ByteArray} {p : Nat} (h : k0 c p 96 = true) : decode c p = .ok (.iadd, 1) := by
  refine dk_of ?_
  unfold Jvm.ClassFile.Decoder.instr
  rw [rd_bind (k0_u h)]; rfl
theorem dk_100 {c : ByteArray} {p : Nat} (h : k0 c p 100 = true) : decode c p = .ok (.isub, 1) := by
  refine dk_of ?_
  unfold Jvm.ClassFile.Decoder.instr
  rw [rd_bind (k0_u h)]; rfl
theorem dk_104 {c : ByteArray} {p : Nat} (h : k0 c p 104 = true) : decode c p = .ok (.imul, 1) := by
  refine dk_of ?_
  unfold Jvm.ClassFile.Decoder.instr
  rw [rd_bind (k0_u h)]; rfl
theorem dk_108 {c : ByteArray} {p : Nat} (h : k0 c p 108 = true) : decode c p = .ok (.idiv, 1) := by
  refine dk_of ?_
  unfold Jvm.ClassFile.Decoder.instr
  rw [rd_bind (k0_u h)]; rfl
theorem dk_112 {c : ByteArray} {p : Nat} (h : k0 c p 112 = true) : decode c p = .ok (.irem, 1) := by
  refine dk_of ?_
  unfold Jvm.ClassFile.Decoder.instr
  rw [rd_bind (k0_u h)]; rfl
theorem dk_120 {c : ByteArray} {p : Nat} (h : k0 c p 120 = true) : decode c p = .ok (.ishl, 1) := by
  refine dk_of ?_
  unfold Jvm.ClassFile.Decoder.instr
  rw [rd_bind (k0_u h)]; rfl
theorem dk_121 {c : ByteArray} {p : Nat} (h : k0 c p 121 = true) : decode c p = .ok (.lshl, 1) := by
  refine dk_of ?_
  unfold Jvm.ClassFile.Decoder.instr
  rw [rd_bind (k0_u h)]; rfl
theorem dk_122 {c : ByteArray} {p : Nat} (h : k0 c p 122 = true) : decode c p = .ok (.ishr, 1) := by
  refine dk_of ?_
  unfold Jvm.ClassFile.Decoder.instr
  rw [rd_bind (k0_u h)]; rfl
theorem dk_124 {c : ByteArray} {p : Nat} (h : k0 c p 124 = true) : decode c p = .ok (.iushr, 1) := by
  refine dk_of ?_
  unfold Jvm.ClassFile.Decoder.instr
  rw [rd_bind (k0_u h)]; rfl
theorem dk_126 {c : ByteArray} {p : Nat} (h : k0 c p 126 = true) : decode c p = .ok (.iand, 1) := by
  refine dk_of ?_
  unfold Jvm.ClassFile.Decoder.instr
  rw [rd_bind (k0_u h)]; rfl
theorem dk_127 {c : ByteArray} {p : Nat} (h : k0 c p 127 = true) : decode c p = .ok (.land, 1) := by
  refine dk_of ?_
  unfold Jvm.ClassFile.Decoder.instr
  rw [rd_bind (k0_u h)]; rfl
theorem dk_128 {c : ByteArray} {p : Nat} (h : k0 c p 128 = true) : decode c p = .ok (.ior, 1) := by
  refine dk_of ?_
  unfold Jvm.ClassFile.Decoder.instr
  rw [rd_bind (k0_u h)]; rfl
theorem dk_129 {c : ByteArray} {p : Nat} (h : k0 c p 129 = true) : decode c p = .ok (.lor, 1) := by
  refine dk_of ?_
  unfold Jvm.ClassFile.Decoder.instr
  rw [rd_bind (k0_u h)]; rfl
theorem dk_130 {c : ByteArray} {p : Nat} (h : k0 c p 130 = true) : decode c p = .ok (.ixor, 1) := by
  refine dk_of ?_
  unfold Jvm.ClassFile.Decoder.instr
  rw [rd_bind (k0_u h)]; rfl
theorem dk_133 {c : ByteArray} {p : Nat} (h : k0 c p 133 = true) : decode c p = .ok (.i2l, 1) := by
  refine dk_of ?_
  unfold Jvm.ClassFile.Decoder.instr
  rw [rd_bind (k0_u h)]; rfl
theorem dk_136 {c : ByteArray} {p : Nat} (h : k0 c p 136 = true) : decode c p = .ok (.l2i, 1) := by
  refine dk_of ?_
  unfold Jvm.ClassFile.Decoder.instr
  rw [rd_bind (k0_u h)]; rfl
theorem dk_172 {c : ByteArray} {p : Nat} (h : k0 c p 172 = true) : decode c p = .ok (.ireturn, 1) := by
  refine dk_of ?_
  unfold Jvm.ClassFile.Decoder.instr
  rw [rd_bind (k0_u h)]; rfl
theorem dk_177 {c : ByteArray} {p : Nat} (h : k0 c p 177 = true) : decode c p = .ok (.return_, 1) := by
  refine dk_of ?_
  unfold Jvm.ClassFile.Decoder.instr
  rw [rd_bind (k0_u h)]; rfl
theorem dk_18 {c : ByteArray} {p : Nat} {v : Nat} (h : k1 c p 18 v = true) : decode c p = .ok (.ldc v, 2) := by
  refine dk_of ?_
  unfold Jvm.ClassFile.Decoder.instr
  rw [rd_bind (k1_u h).1]
  show ((Jvm.ClassFile.Reader.u1 : Jvm.ClassFile.Decoder Nat) >>= fun x => pure (.ldc x) : Jvm.ClassFile.Decoder Instr).runAt c (p + 1) = _
  rw [rd_bind (k1_u h).2]; rfl
theorem dk_21 {c : ByteArray} {p : Nat} {v : Nat} (h : k1 c p 21 v = true) : decode c p = .ok (.iload v, 2) := by
  refine dk_of ?_
  unfold Jvm.ClassFile.Decoder.instr
  rw [rd_bind (k1_u h).1]
  show ((Jvm.ClassFile.Reader.u1 : Jvm.ClassFile.Decoder Nat) >>= fun x => pure (.iload x) : Jvm.ClassFile.Decoder Instr).runAt c (p + 1) = _
  rw [rd_bind (k1_u h).2]; rfl
theorem dk_25 {c : ByteArray} {p : Nat} {v : Nat} (h : k1 c p 25 v = true) : decode c p = .ok (.aload v, 2) := by
  refine dk_of ?_
  unfold Jvm.ClassFile.Decoder.instr
  rw [rd_bind (k1_u h).1]
  show ((Jvm.ClassFile.Reader.u1 : Jvm.ClassFile.Decoder Nat) >>= fun x => pure (.aload x) : Jvm.ClassFile.Decoder Instr).runAt c (p + 1) = _
  rw [rd_bind (k1_u h).2]; rfl
theorem dk_54 {c : ByteArray} {p : Nat} {v : Nat} (h : k1 c p 54 v = true) : decode c p = .ok (.istore v, 2) := by
  refine dk_of ?_
  unfold Jvm.ClassFile.Decoder.instr
  rw [rd_bind (k1_u h).1]
  show ((Jvm.ClassFile.Reader.u1 : Jvm.ClassFile.Decoder Nat) >>= fun x => pure (.istore x) : Jvm.ClassFile.Decoder Instr).runAt c (p + 1) = _
  rw [rd_bind (k1_u h).2]; rfl
theorem dk_58 {c : ByteArray} {p : Nat} {v : Nat} (h : k1 c p 58 v = true) : decode c p = .ok (.astore v, 2) := by
  refine dk_of ?_
  unfold Jvm.ClassFile.Decoder.instr
  rw [rd_bind (k1_u h).1]
  show ((Jvm.ClassFile.Reader.u1 : Jvm.ClassFile.Decoder Nat) >>= fun x => pure (.astore x) : Jvm.ClassFile.Decoder Instr).runAt c (p + 1) = _
  rw [rd_bind (k1_u h).2]; rfl
theorem dk_180 {c : ByteArray} {p : Nat} {v : Nat} (h : k2 c p 180 v = true) : decode c p = .ok (.getfield v, 3) := by
  refine dk_of ?_
  unfold Jvm.ClassFile.Decoder.instr
  rw [rd_bind (k2_u h).1]
  show ((Jvm.ClassFile.Reader.u2 : Jvm.ClassFile.Decoder Nat) >>= fun x => pure (.getfield x) : Jvm.ClassFile.Decoder Instr).runAt c (p + 1) = _
  rw [rd_bind (k2_u h).2]; rfl
theorem dk_181 {c : ByteArray} {p : Nat} {v : Nat} (h : k2 c p 181 v = true) : decode c p = .ok (.putfield v, 3) := by
  refine dk_of ?_
  unfold Jvm.ClassFile.Decoder.instr
  rw [rd_bind (k2_u h).1]
  show ((Jvm.ClassFile.Reader.u2 : Jvm.ClassFile.Decoder Nat) >>= fun x => pure (.putfield x) : Jvm.ClassFile.Decoder Instr).runAt c (p + 1) = _
  rw [rd_bind (k2_u h).2]; rfl
theorem dk_182 {c : ByteArray} {p : Nat} {v : Nat} (h : k2 c p 182 v = true) : decode c p = .ok (.invokevirtual v, 3) := by
  refine dk_of ?_
  unfold Jvm.ClassFile.Decoder.instr
  rw [rd_bind (k2_u h).1]
  show ((Jvm.ClassFile.Reader.u2 : Jvm.ClassFile.Decoder Nat) >>= fun x => pure (.invokevirtual x) : Jvm.ClassFile.Decoder Instr).runAt c (p + 1) = _
  rw [rd_bind (k2_u h).2]; rfl
theorem dk_184 {c : ByteArray} {p : Nat} {v : Nat} (h : k2 c p 184 v = true) : decode c p = .ok (.invokestatic v, 3) := by
  refine dk_of ?_
  unfold Jvm.ClassFile.Decoder.instr
  rw [rd_bind (k2_u h).1]
  show ((Jvm.ClassFile.Reader.u2 : Jvm.ClassFile.Decoder Nat) >>= fun x => pure (.invokestatic x) : Jvm.ClassFile.Decoder Instr).runAt c (p + 1) = _
  rw [rd_bind (k2_u h).2]; rfl
theorem dk_16 {c : ByteArray} {p : Nat} {v : Int} (h : ks1 c p 16 v = true) : decode c p = .ok (.bipush v, 2) := by
  refine dk_of ?_
  unfold Jvm.ClassFile.Decoder.instr
  rw [rd_bind (ks1_u h).1]
  show ((Jvm.ClassFile.Reader.s1 : Jvm.ClassFile.Decoder Int) >>= fun x => pure (.bipush x) : Jvm.ClassFile.Decoder Instr).runAt c (p + 1) = _
  rw [rd_bind (ks1_u h).2]; rfl
theorem dk_17 {c : ByteArray} {p : Nat} {v : Int} (h : ks2 c p 17 v = true) : decode c p = .ok (.sipush v, 3) := by
  refine dk_of ?_
  unfold Jvm.ClassFile.Decoder.instr
  rw [rd_bind (ks2_u h).1]
  show ((Jvm.ClassFile.Reader.s2 : Jvm.ClassFile.Decoder Int) >>= fun x => pure (.sipush x) : Jvm.ClassFile.Decoder Instr).runAt c (p + 1) = _
  rw [rd_bind (ks2_u h).2]; rfl
theorem dk_153 {c : ByteArray} {p : Nat} {v : Int} (h : ks2 c p 153 v = true) : decode c p = .ok (.ifCond .eq v, 3) := by
  refine dk_of ?_
  unfold Jvm.ClassFile.Decoder.instr
  rw [rd_bind (ks2_u h).1]
  show ((Jvm.ClassFile.Reader.s2 : Jvm.ClassFile.Decoder Int) >>= fun x => pure (.ifCond .eq x) : Jvm.ClassFile.Decoder Instr).runAt c (p + 1) = _
  rw [rd_bind (ks2_u h).2]; rfl
theorem dk_154 {c : ByteArray} {p : Nat} {v : Int} (h : ks2 c p 154 v = true) : decode c p = .ok (.ifCond .ne v, 3) := by
  refine dk_of ?_
  unfold Jvm.ClassFile.Decoder.instr
  rw [rd_bind (ks2_u h).1]
  show ((Jvm.ClassFile.Reader.s2 : Jvm.ClassFile.Decoder Int) >>= fun x => pure (.ifCond .ne x) : Jvm.ClassFile.Decoder Instr).runAt c (p + 1) = _
  rw [rd_bind (ks2_u h).2]; rfl
theorem dk_155 {c : ByteArray} {p : Nat} {v : Int} (h : ks2 c p 155 v = true) : decode c p = .ok (.ifCond .lt v, 3) := by
  refine dk_of ?_
  unfold Jvm.ClassFile.Decoder.instr
  rw [rd_bind (ks2_u h).1]
  show ((Jvm.ClassFile.Reader.s2 : Jvm.ClassFile.Decoder Int) >>= fun x => pure (.ifCond .lt x) : Jvm.ClassFile.Decoder Instr).runAt c (p + 1) = _
  rw [rd_bind (ks2_u h).2]; rfl
theorem dk_156 {c : ByteArray} {p : Nat} {v : Int} (h : ks2 c p 156 v = true) : decode c p = .ok (.ifCond .ge v, 3) := by
  refine dk_of ?_
  unfold Jvm.ClassFile.Decoder.instr
  rw [rd_bind (ks2_u h).1]
  show ((Jvm.ClassFile.Reader.s2 : Jvm.ClassFile.Decoder Int) >>= fun x => pure (.ifCond .ge x) : Jvm.ClassFile.Decoder Instr).runAt c (p + 1) = _
  rw [rd_bind (ks2_u h).2]; rfl
theorem dk_157 {c : ByteArray} {p : Nat} {v : Int} (h : ks2 c p 157 v = true) : decode c p = .ok (.ifCond .gt v, 3) := by
  refine dk_of ?_
  unfold Jvm.ClassFile.Decoder.instr
  rw [rd_bind (ks2_u h).1]
  show ((Jvm.ClassFile.Reader.s2 : Jvm.ClassFile.Decoder Int) >>= fun x => pure (.ifCond .gt x) : Jvm.ClassFile.Decoder Instr).runAt c (p + 1) = _
  rw [rd_bind (ks2_u h).2]; rfl
theorem dk_158 {c : ByteArray} {p : Nat} {v : Int} (h : ks2 c p 158 v = true) : decode c p = .ok (.ifCond .le v, 3) := by
  refine dk_of ?_
  unfold Jvm.ClassFile.Decoder.instr
  rw [rd_bind (ks2_u h).1]
  show ((Jvm.ClassFile.Reader.s2 : Jvm.ClassFile.Decoder Int) >>= fun x => pure (.ifCond .le x) : Jvm.ClassFile.Decoder Instr).runAt c (p + 1) = _
  rw [rd_bind (ks2_u h).2]; rfl
theorem dk_159 {c : ByteArray} {p : Nat} {v : Int} (h : ks2 c p 159 v = true) : decode c p = .ok (.if_icmp .eq v, 3) := by
  refine dk_of ?_
  unfold Jvm.ClassFile.Decoder.instr
  rw [rd_bind (ks2_u h).1]
  show ((Jvm.ClassFile.Reader.s2 : Jvm.ClassFile.Decoder Int) >>= fun x => pure (.if_icmp .eq x) : Jvm.ClassFile.Decoder Instr).runAt c (p + 1) = _
  rw [rd_bind (ks2_u h).2]; rfl
theorem dk_160 {c : ByteArray} {p : Nat} {v : Int} (h : ks2 c p 160 v = true) : decode c p = .ok (.if_icmp .ne v, 3) := by
  refine dk_of ?_
  unfold Jvm.ClassFile.Decoder.instr
  rw [rd_bind (ks2_u h).1]
  show ((Jvm.ClassFile.Reader.s2 : Jvm.ClassFile.Decoder Int) >>= fun x => pure (.if_icmp .ne x) : Jvm.ClassFile.Decoder Instr).runAt c (p + 1) = _
  rw [rd_bind (ks2_u h).2]; rfl
theorem dk_161 {c : ByteArray} {p : Nat} {v : Int} (h : ks2 c p 161 v = true) : decode c p = .ok (.if_icmp .lt v, 3) := by
  refine dk_of ?_
  unfold Jvm.ClassFile.Decoder.instr
  rw [rd_bind (ks2_u h).1]
  show ((Jvm.ClassFile.Reader.s2 : Jvm.ClassFile.Decoder Int) >>= fun x => pure (.if_icmp .lt x) : Jvm.ClassFile.Decoder Instr).runAt c (p + 1) = _
  rw [rd_bind (ks2_u h).2]; rfl
theorem dk_162 {c : ByteArray} {p : Nat} {v : Int} (h : ks2 c p 162 v = true) : decode c p = .ok (.if_icmp .ge v, 3) := by
  refine dk_of ?_
  unfold Jvm.ClassFile.Decoder.instr
  rw [rd_bind (ks2_u h).1]
  show ((Jvm.ClassFile.Reader.s2 : Jvm.ClassFile.Decoder Int) >>= fun x => pure (.if_icmp .ge x) : Jvm.ClassFile.Decoder Instr).runAt c (p + 1) = _
  rw [rd_bind (ks2_u h).2]; rfl
theorem dk_163 {c : ByteArray} {p : Nat} {v : Int} (h : ks2 c p 163 v = true) : decode c p = .ok (.if_icmp .gt v, 3) := by
  refine dk_of ?_
  unfold Jvm.ClassFile.Decoder.instr
  rw [rd_bind (ks2_u h).1]
  show ((Jvm.ClassFile.Reader.s2 : Jvm.ClassFile.Decoder Int) >>= fun x => pure (.if_icmp .gt x) : Jvm.ClassFile.Decoder Instr).runAt c (p + 1) = _
  rw [rd_bind (ks2_u h).2]; rfl
theorem dk_164 {c : ByteArray} {p : Nat} {v : Int} (h : ks2 c p 164 v = true) : decode c p = .ok (.if_icmp .le v, 3) := by
  refine dk_of ?_
  unfold Jvm.ClassFile.Decoder.instr
  rw [rd_bind (ks2_u h).1]
  show ((Jvm.ClassFile.Reader.s2 : Jvm.ClassFile.Decoder Int) >>= fun x => pure (.if_icmp .le x) : Jvm.ClassFile.Decoder Instr).runAt c (p + 1) = _
  rw [rd_bind (ks2_u h).2]; rfl
theorem dk_167 {c : ByteArray} {p : Nat} {v : Int} (h : ks2 c p 167 v = true) : decode c p = .ok (.goto v, 3) := by
  refine dk_of ?_
  unfold Jvm.ClassFile.Decoder.instr
  rw [rd_bind (ks2_u h).1]
  show ((Jvm.ClassFile.Reader.s2 : Jvm.ClassFile.Decoder Int) >>= fun x => pure (.goto x) : Jvm.ClassFile.Decoder Instr).runAt c (p + 1) = _
  rw [rd_bind (ks2_u h).2]; rfl
theorem dk_132 {c : ByteArray} {p : Nat} {v : Nat} {w : Int} (h : kii c p v w = true) : decode c p = .ok (.iinc v w, 3) := by
  refine dk_of ?_
  unfold Jvm.ClassFile.Decoder.instr
  rw [rd_bind (kii_u h).1]
  show ((Jvm.ClassFile.Reader.u1 : Jvm.ClassFile.Decoder Nat) >>= fun x => Jvm.ClassFile.Reader.s1 >>= fun z => pure (.iinc x z) : Jvm.ClassFile.Decoder Instr).runAt c (p + 1) = _
  rw [rd_bind (kii_u h).2.1, rd_bind (kii_u h).2.2]; rfl
