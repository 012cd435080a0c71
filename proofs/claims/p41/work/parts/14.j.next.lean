theorem Inv2.next {i : Nat} {M : Mem} (h : Inv2 i M) : Inv2 (i + 1) M := ⟨h.1, h.2.1, h.2.2.1, h.2.2.2.1, h.2.2.2.2.keep rfl rfl rfl (fun _ _ _ _ _ => rfl) rfl⟩
