theorem Inv.next {i : Nat} {M : Mem} (h : Inv i M) : Inv (i + 1) M := ⟨h.1, h.2.1, h.2.2.1, h.2.2.2.1, h.2.2.2.2.keep rfl rfl rfl (fun _ _ _ _ _ => rfl) rfl⟩
