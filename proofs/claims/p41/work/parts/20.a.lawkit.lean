/-! THE CLAIM OUT OF ONE WALK OF THE LAW'S BODY. Your part is whole_start (and what it stands on); all else here is the same for every law, but numbers. -/
def R_law : String := "KnivesGroundLaw"
def lw_P (b : Addr) (xs : List Int32) (args : Array Value) (s : State) : Prop := args = #[.ref b] ∧ s.IntsAt b xs ∧ xs.length ≤ 3072 ∧ (Jvm.Cond.and given_1 narrow_1).before args s = true
def lw_Q (_ : Array Value) (s : State) (o : Outcome) (t : State) : Prop := o = .returned (some (.int 1)) ∧ Framed s o t [] 600000 7302250
def lw_Z (below : List Frame) (a : Array Value) (s : State) : State → Prop := fun t => ∃ o, t.status = .running ∧ Ended t below o ∧ lw_Q a s o t
/-- the law's own end, with 1 on the stack, nothing written that was there before, its room as the claim has it -/
theorem lw_ret {p : Program} {l : Launch} {e : Env} {s : State} {m : MethodId} {below : List Frame} {meth : Method} {c : Code} {b : Nat} (hx : p.tables.exec = Jvm.exec) (hb : c.code = code) (hr : meth.sig.returnType = ret) (hlocks : meth.locks = false) {pc : Nat} {H : Heap} {ls : Array Slot} (hdg : decode code pc = .ok (.ireturn, 1)) : W p l e room_1 s m #[Value.ref b] below meth c H [] 600000 7302250 (lw_Z below #[Value.ref b] s) (F0 m pc ls [.int 1]) := by
  intro T hT X
  obtain ⟨fs, hret, hrun, hended, hW, hframe⟩ := X.leave (v := some (.int 1)) (hlocks := hlocks) (fun h => by rw [hr] at h; cases h)
  have hmeth' : T.vm.method? m = some meth := X.method'
  refine ⟨T.setFrames fs, ?_, .returned (some (.int 1)), hrun, hended, rfl, ⟨_, rfl⟩, hW, hframe⟩
  jvm_step X.here [X.here.top, hx, hb, hdg, hmeth', hr, ret, narrow_b1]
  (try refine ⟨rfl, ?_⟩); (try refine ⟨rfl, ?_⟩)
  first | (intro acts; rw [hret _ acts rfl rfl rfl]) | rw [hret _ _ rfl rfl rfl]
  exact Steps.refl _
/-- what holds at the law's entry: the machine, the code, the tables' words (any of lw_tbl by 'hts w (by decide +kernel)'), the script of L ints xs at the cell b, what the Statement gives of the start (any of its parts by flat_of_before) -/
def lw_At (p : Program) (s : State) (m : MethodId) (meth : Method) (c : Code) (b L : Nat) (xs : Nat → Int32) : Prop :=
  p.tables.exec = Jvm.exec ∧ c.code = code ∧ meth.sig.returnType = ret ∧ c.maxLocals = 4 ∧ s.vm.findClass R_law = some m.cls ∧ (∀ w ∈ lw_tbl, w.before #[Value.ref b] s = true) ∧ va_X b L xs s s.heap ∧ b < s.heap.size ∧ meth.locks = false ∧ (Jvm.Cond.and given_1 narrow_1).before #[Value.ref b] s = true
section LJ
variable {p : Program} {l : Launch} {e : Env} {R : Room} {s : State} {m : MethodId} {args : Array Value} {below : List Frame} {meth : Method} {c : Code} {kc ks : Nat} {Q : State → Prop} {D : va_G} {y : wY} {ad : Nat → Nat} {A : Nat → Prop} {nL : Nat} {M : Mem} {pc : Nat} {lv : List (Nat × Value)} {st : List Value}
variable {cc : ByteArray} {Ts : List Cond} {own : String}
theorem j_sld (X : Amb p m c cc nL s args Ts own D y ad A) {b L k : Nat} {xs : Nat → Int32} (hX : va_X b L xs s s.heap) (hbl : b < s.heap.size) (hbA : ¬ A b) {i : Int32} (hin : vp_in i L) (hdg : decode cc pc = .ok (.iaload, 1)) (kk : J p l e R s m args below meth c kc ks Q D y ad A nL M (pc + 1) lv (.int (xs i.toNatClampNeg) :: st)) : J p l e R s m args below meth c kc ks Q D y ad A nL M pc lv (.int i :: .ref b :: st) := fun H locs ls hP hD hS hl => va_sld X.1.1 X.1.2.1 hX hbl hbA hS hin hdg (kk H locs ls hP hD hS hl)
theorem j_slen (X : Amb p m c cc nL s args Ts own D y ad A) {b L k : Nat} {xs : Nat → Int32} (hX : va_X b L xs s s.heap) (hbl : b < s.heap.size) (hbA : ¬ A b) (hdg : decode cc pc = .ok (.arraylength, 1)) (kk : J p l e R s m args below meth c kc ks Q D y ad A nL M (pc + 1) lv (.int (Int32.ofNat L) :: st)) : J p l e R s m args below meth c kc ks Q D y ad A nL M pc lv (.ref b :: st) := fun H locs ls hP hD hS hl => va_slen X.1.1 X.1.2.1 hX hbl hbA hS hdg (kk H locs ls hP hD hS hl)
/-- one number of the script, at 6 k + j -/
theorem j_rd (X : Amb p m c cc nL s args Ts own D y ad A) {b L k : Nat} {xs : Nat → Int32} (hX : va_X b L xs s s.heap) (hbl : b < s.heap.size) (hbA : ¬ A b) (hL : L ≤ 3072) (hk : 6 * k + 6 ≤ L) (j : Nat) {n : Int} {v : Int32} (hj : j ≤ 5) (hn : Int32.ofInt n = v) (hv : v = nI j) {f0 f3 : Fin 4} (e0 : (f0 : Nat) = 0) (e3 : (f3 : Nat) = 3) (d0 : decode cc pc = .ok (.aload_n f0, 1)) (d1 : decode cc (pc + 1) = .ok (.iload_n f3, 1)) (d2 : decode cc (pc + 1 + 1) = .ok (.iconst n, 1)) (d3 : decode cc (pc + 1 + 1 + 1) = .ok (.iadd, 1)) (d4 : decode cc (pc + 1 + 1 + 1 + 1) = .ok (.iaload, 1)) (kk : J p l e R s m args below meth c kc ks Q D y ad A nL M (pc + 1 + 1 + 1 + 1 + 1) [(3, .int (nI (6 * k))), (2, .ref (ad 79)), (0, .ref b), (1, .ref (ad 0))] (.int (xs (6 * k + j)) :: st)) : J p l e R s m args below meth c kc ks Q D y ad A nL M pc [(3, .int (nI (6 * k))), (2, .ref (ad 79)), (0, .ref b), (1, .ref (ad 0))] st := by
  refine j_aload_n X 2 e0 rfl d0 ?_
  refine j_iload_n X 0 e3 rfl d1 ?_
  refine j_iconst X hn d2 ?_
  refine j_iadd X d3 ?_
  refine j_eqi (v := nI (6 * k + j)) (by rw [hv, nI_add]) ?_
  refine j_sld X (k := k) hX hbl hbA (vp_in_nI (by omega) (by omega)) d4 ?_
  exact j_eqi (by rw [nI_clamp (by omega)]) kk
theorem j_lawret {b : Nat} (hx : p.tables.exec = Jvm.exec) (hb : c.code = code) (hr : meth.sig.returnType = ret) (hlocks : meth.locks = false) (hk : kc ≤ 600000) (hs : ks ≤ 7302250) (hdg : decode code pc = .ok (.ireturn, 1)) : J p l e room_1 s m #[Value.ref b] below meth c kc ks (lw_Z below #[Value.ref b] s) D y ad (fun q : Nat => s.heap.size ≤ q) nL M pc lv [.int 1] := fun H locs ls hP hD hS hl => va_forget hS.2.2 (W.widen hk hs (lw_ret hx hb hr hlocks hdg))
end LJ
theorem nI_m6 {L : Nat} (h : L ≤ 3072) : (Int32.ofNat L - 6).toInt = (L : Int) - 6 := by
  have h6 : (6 : Int32).toInt = 6 := rfl
  have hl : (Int32.ofNat L).toInt = (L : Int) := nI_toInt (by omega)
  rw [Int32.toInt_sub, hl, h6]
  exact Int.bmod_eq_of_le (by omega) (by omega)
theorem and63 (x : Int32) : ∃ v : Nat, v ≤ 63 ∧ x &&& 63 = nI v := by
  have h : (x &&& 63).toBitVec.toNat ≤ 63 := by
    rw [Int32.toBitVec_and, BitVec.toNat_and]
    exact Nat.and_le_right
  refine ⟨_, h, Int32.toInt_inj.mp ?_⟩
  rw [nI_toInt (by omega)]
  show (x &&& 63).toBitVec.toInt = _
  rw [BitVec.toInt_eq_toNat_of_lt (by omega)]
