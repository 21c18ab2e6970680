/-! shapes of the objects: printed by wip/whole/mk.py -/
def SC (Γ : xSh) (c : Nat) : Prop := gK Γ (c) = some (.inl 5) ∧ gF Γ (c) 0 = some (c + 1) ∧ gF Γ (c) 2 = some (c + 2) ∧ gF Γ (c) 3 = some (c + 61) ∧ gF Γ (c) 4 = some (c + 69) ∧ gF Γ (c) 5 = some (c + 77) ∧ gF Γ (c) 7 = some (c + 4) ∧ gF Γ (c) 8 = some (c + 28)
theorem SC.f0 {Γ : xSh} {c : Nat} (h : SC Γ c) : gK Γ (c) = some (.inl 5) := h.1
theorem SC.f1 {Γ : xSh} {c : Nat} (h : SC Γ c) : gF Γ (c) 0 = some (c + 1) := h.2.1
theorem SC.f2 {Γ : xSh} {c : Nat} (h : SC Γ c) : gF Γ (c) 2 = some (c + 2) := h.2.2.1
theorem SC.f3 {Γ : xSh} {c : Nat} (h : SC Γ c) : gF Γ (c) 3 = some (c + 61) := h.2.2.2.1
theorem SC.f4 {Γ : xSh} {c : Nat} (h : SC Γ c) : gF Γ (c) 4 = some (c + 69) := h.2.2.2.2.1
theorem SC.f5 {Γ : xSh} {c : Nat} (h : SC Γ c) : gF Γ (c) 5 = some (c + 77) := h.2.2.2.2.2.1
theorem SC.f6 {Γ : xSh} {c : Nat} (h : SC Γ c) : gF Γ (c) 7 = some (c + 4) := h.2.2.2.2.2.2.1
theorem SC.f7 {Γ : xSh} {c : Nat} (h : SC Γ c) : gF Γ (c) 8 = some (c + 28) := h.2.2.2.2.2.2.2
def SM (Γ : xSh) (m : Nat) : Prop := gK Γ (m) = some (.inl 6) ∧ gF Γ (m) 1 = some (m + 1) ∧ gF Γ (m) 2 = some (m + 2) ∧ gF Γ (m) 5 = some (m + 3) ∧ gF Γ (m) 8 = some (m + 4) ∧ gF Γ (m) 9 = some (m + 5) ∧ gF Γ (m) 11 = some (m + 6) ∧ gF Γ (m) 28 = some (m + 7) ∧ gF Γ (m) 29 = some (m + 8) ∧ gF Γ (m) 30 = some (m + 9) ∧ gF Γ (m) 31 = some (m + 10) ∧ gF Γ (m) 32 = some (m + 11) ∧ gF Γ (m) 40 = some (m + 12) ∧ gF Γ (m) 41 = some (m + 13) ∧ gF Γ (m) 42 = some (m + 14) ∧ gF Γ (m) 43 = some (m + 15) ∧ gF Γ (m) 48 = some (m + 16) ∧ gF Γ (m) 49 = some (m + 17) ∧ gF Γ (m) 50 = some (m + 18) ∧ gF Γ (m) 51 = some (m + 19) ∧ gK Γ (m + 1) = some (.inr (.int, 960)) ∧ gK Γ (m + 2) = some (.inr (.int, 6)) ∧ gK Γ (m + 3) = some (.inr (.int, 160)) ∧ gK Γ (m + 4) = some (.inr (.int, 6)) ∧ gK Γ (m + 5) = some (.inr (.int, 18)) ∧ gK Γ (m + 6) = some (.inr (.int, 10)) ∧ gK Γ (m + 7) = some (.inr (.int, 30)) ∧ gK Γ (m + 8) = some (.inr (.int, 30)) ∧ gK Γ (m + 9) = some (.inr (.int, 30)) ∧ gK Γ (m + 10) = some (.inr (.boolean, 30)) ∧ gK Γ (m + 11) = some (.inr (.int, 6)) ∧ gK Γ (m + 12) = some (.inr (.int, 6)) ∧ gK Γ (m + 13) = some (.inr (.int, 6)) ∧ gK Γ (m + 14) = some (.inr (.int, 18)) ∧ gK Γ (m + 15) = some (.inr (.int, 10)) ∧ gK Γ (m + 16) = some (.inr (.boolean, 4)) ∧ gK Γ (m + 17) = some (.inr (.int, 4)) ∧ gK Γ (m + 18) = some (.inr (.int, 4)) ∧ gK Γ (m + 19) = some (.inr (.int, 160))
theorem SM.f0 {Γ : xSh} {m : Nat} (h : SM Γ m) : gK Γ (m) = some (.inl 6) := h.1
theorem SM.f1 {Γ : xSh} {m : Nat} (h : SM Γ m) : gF Γ (m) 1 = some (m + 1) := h.2.1
theorem SM.f2 {Γ : xSh} {m : Nat} (h : SM Γ m) : gF Γ (m) 2 = some (m + 2) := h.2.2.1
theorem SM.f3 {Γ : xSh} {m : Nat} (h : SM Γ m) : gF Γ (m) 5 = some (m + 3) := h.2.2.2.1
theorem SM.f4 {Γ : xSh} {m : Nat} (h : SM Γ m) : gF Γ (m) 8 = some (m + 4) := h.2.2.2.2.1
theorem SM.f5 {Γ : xSh} {m : Nat} (h : SM Γ m) : gF Γ (m) 9 = some (m + 5) := h.2.2.2.2.2.1
theorem SM.f6 {Γ : xSh} {m : Nat} (h : SM Γ m) : gF Γ (m) 11 = some (m + 6) := h.2.2.2.2.2.2.1
theorem SM.f7 {Γ : xSh} {m : Nat} (h : SM Γ m) : gF Γ (m) 28 = some (m + 7) := h.2.2.2.2.2.2.2.1
theorem SM.f8 {Γ : xSh} {m : Nat} (h : SM Γ m) : gF Γ (m) 29 = some (m + 8) := h.2.2.2.2.2.2.2.2.1
theorem SM.f9 {Γ : xSh} {m : Nat} (h : SM Γ m) : gF Γ (m) 30 = some (m + 9) := h.2.2.2.2.2.2.2.2.2.1
theorem SM.f10 {Γ : xSh} {m : Nat} (h : SM Γ m) : gF Γ (m) 31 = some (m + 10) := h.2.2.2.2.2.2.2.2.2.2.1
theorem SM.f11 {Γ : xSh} {m : Nat} (h : SM Γ m) : gF Γ (m) 32 = some (m + 11) := h.2.2.2.2.2.2.2.2.2.2.2.1
theorem SM.f12 {Γ : xSh} {m : Nat} (h : SM Γ m) : gF Γ (m) 40 = some (m + 12) := h.2.2.2.2.2.2.2.2.2.2.2.2.1
theorem SM.f13 {Γ : xSh} {m : Nat} (h : SM Γ m) : gF Γ (m) 41 = some (m + 13) := h.2.2.2.2.2.2.2.2.2.2.2.2.2.1
theorem SM.f14 {Γ : xSh} {m : Nat} (h : SM Γ m) : gF Γ (m) 42 = some (m + 14) := h.2.2.2.2.2.2.2.2.2.2.2.2.2.2.1
theorem SM.f15 {Γ : xSh} {m : Nat} (h : SM Γ m) : gF Γ (m) 43 = some (m + 15) := h.2.2.2.2.2.2.2.2.2.2.2.2.2.2.2.1
theorem SM.f16 {Γ : xSh} {m : Nat} (h : SM Γ m) : gF Γ (m) 48 = some (m + 16) := h.2.2.2.2.2.2.2.2.2.2.2.2.2.2.2.2.1
theorem SM.f17 {Γ : xSh} {m : Nat} (h : SM Γ m) : gF Γ (m) 49 = some (m + 17) := h.2.2.2.2.2.2.2.2.2.2.2.2.2.2.2.2.2.1
theorem SM.f18 {Γ : xSh} {m : Nat} (h : SM Γ m) : gF Γ (m) 50 = some (m + 18) := h.2.2.2.2.2.2.2.2.2.2.2.2.2.2.2.2.2.2.1
theorem SM.f19 {Γ : xSh} {m : Nat} (h : SM Γ m) : gF Γ (m) 51 = some (m + 19) := h.2.2.2.2.2.2.2.2.2.2.2.2.2.2.2.2.2.2.2.1
theorem SM.f20 {Γ : xSh} {m : Nat} (h : SM Γ m) : gK Γ (m + 1) = some (.inr (.int, 960)) := h.2.2.2.2.2.2.2.2.2.2.2.2.2.2.2.2.2.2.2.2.1
theorem SM.l20 {Γ : xSh} {m : Nat} (h : SM Γ m) : gLen Γ (m + 1) = 960 := gLen_of h.2.2.2.2.2.2.2.2.2.2.2.2.2.2.2.2.2.2.2.2.1
theorem SM.e20 {Γ : xSh} {m : Nat} (h : SM Γ m) : (∃ ty, gArr Γ (m + 1) ty) = True := eq_true ⟨_, _, h.2.2.2.2.2.2.2.2.2.2.2.2.2.2.2.2.2.2.2.2.1⟩
theorem SM.a20 {Γ : xSh} {m : Nat} (h : SM Γ m) : gArr Γ (m + 1) .int = True := gArr_of h.2.2.2.2.2.2.2.2.2.2.2.2.2.2.2.2.2.2.2.2.1
theorem SM.f21 {Γ : xSh} {m : Nat} (h : SM Γ m) : gK Γ (m + 2) = some (.inr (.int, 6)) := h.2.2.2.2.2.2.2.2.2.2.2.2.2.2.2.2.2.2.2.2.2.1
theorem SM.l21 {Γ : xSh} {m : Nat} (h : SM Γ m) : gLen Γ (m + 2) = 6 := gLen_of h.2.2.2.2.2.2.2.2.2.2.2.2.2.2.2.2.2.2.2.2.2.1
theorem SM.e21 {Γ : xSh} {m : Nat} (h : SM Γ m) : (∃ ty, gArr Γ (m + 2) ty) = True := eq_true ⟨_, _, h.2.2.2.2.2.2.2.2.2.2.2.2.2.2.2.2.2.2.2.2.2.1⟩
theorem SM.a21 {Γ : xSh} {m : Nat} (h : SM Γ m) : gArr Γ (m + 2) .int = True := gArr_of h.2.2.2.2.2.2.2.2.2.2.2.2.2.2.2.2.2.2.2.2.2.1
theorem SM.f22 {Γ : xSh} {m : Nat} (h : SM Γ m) : gK Γ (m + 3) = some (.inr (.int, 160)) := h.2.2.2.2.2.2.2.2.2.2.2.2.2.2.2.2.2.2.2.2.2.2.1
theorem SM.l22 {Γ : xSh} {m : Nat} (h : SM Γ m) : gLen Γ (m + 3) = 160 := gLen_of h.2.2.2.2.2.2.2.2.2.2.2.2.2.2.2.2.2.2.2.2.2.2.1
theorem SM.e22 {Γ : xSh} {m : Nat} (h : SM Γ m) : (∃ ty, gArr Γ (m + 3) ty) = True := eq_true ⟨_, _, h.2.2.2.2.2.2.2.2.2.2.2.2.2.2.2.2.2.2.2.2.2.2.1⟩
theorem SM.a22 {Γ : xSh} {m : Nat} (h : SM Γ m) : gArr Γ (m + 3) .int = True := gArr_of h.2.2.2.2.2.2.2.2.2.2.2.2.2.2.2.2.2.2.2.2.2.2.1
theorem SM.f23 {Γ : xSh} {m : Nat} (h : SM Γ m) : gK Γ (m + 4) = some (.inr (.int, 6)) := h.2.2.2.2.2.2.2.2.2.2.2.2.2.2.2.2.2.2.2.2.2.2.2.1
theorem SM.l23 {Γ : xSh} {m : Nat} (h : SM Γ m) : gLen Γ (m + 4) = 6 := gLen_of h.2.2.2.2.2.2.2.2.2.2.2.2.2.2.2.2.2.2.2.2.2.2.2.1
theorem SM.e23 {Γ : xSh} {m : Nat} (h : SM Γ m) : (∃ ty, gArr Γ (m + 4) ty) = True := eq_true ⟨_, _, h.2.2.2.2.2.2.2.2.2.2.2.2.2.2.2.2.2.2.2.2.2.2.2.1⟩
theorem SM.a23 {Γ : xSh} {m : Nat} (h : SM Γ m) : gArr Γ (m + 4) .int = True := gArr_of h.2.2.2.2.2.2.2.2.2.2.2.2.2.2.2.2.2.2.2.2.2.2.2.1
theorem SM.f24 {Γ : xSh} {m : Nat} (h : SM Γ m) : gK Γ (m + 5) = some (.inr (.int, 18)) := h.2.2.2.2.2.2.2.2.2.2.2.2.2.2.2.2.2.2.2.2.2.2.2.2.1
theorem SM.l24 {Γ : xSh} {m : Nat} (h : SM Γ m) : gLen Γ (m + 5) = 18 := gLen_of h.2.2.2.2.2.2.2.2.2.2.2.2.2.2.2.2.2.2.2.2.2.2.2.2.1
theorem SM.e24 {Γ : xSh} {m : Nat} (h : SM Γ m) : (∃ ty, gArr Γ (m + 5) ty) = True := eq_true ⟨_, _, h.2.2.2.2.2.2.2.2.2.2.2.2.2.2.2.2.2.2.2.2.2.2.2.2.1⟩
theorem SM.a24 {Γ : xSh} {m : Nat} (h : SM Γ m) : gArr Γ (m + 5) .int = True := gArr_of h.2.2.2.2.2.2.2.2.2.2.2.2.2.2.2.2.2.2.2.2.2.2.2.2.1
theorem SM.f25 {Γ : xSh} {m : Nat} (h : SM Γ m) : gK Γ (m + 6) = some (.inr (.int, 10)) := h.2.2.2.2.2.2.2.2.2.2.2.2.2.2.2.2.2.2.2.2.2.2.2.2.2.1
theorem SM.l25 {Γ : xSh} {m : Nat} (h : SM Γ m) : gLen Γ (m + 6) = 10 := gLen_of h.2.2.2.2.2.2.2.2.2.2.2.2.2.2.2.2.2.2.2.2.2.2.2.2.2.1
theorem SM.e25 {Γ : xSh} {m : Nat} (h : SM Γ m) : (∃ ty, gArr Γ (m + 6) ty) = True := eq_true ⟨_, _, h.2.2.2.2.2.2.2.2.2.2.2.2.2.2.2.2.2.2.2.2.2.2.2.2.2.1⟩
theorem SM.a25 {Γ : xSh} {m : Nat} (h : SM Γ m) : gArr Γ (m + 6) .int = True := gArr_of h.2.2.2.2.2.2.2.2.2.2.2.2.2.2.2.2.2.2.2.2.2.2.2.2.2.1
theorem SM.f26 {Γ : xSh} {m : Nat} (h : SM Γ m) : gK Γ (m + 7) = some (.inr (.int, 30)) := h.2.2.2.2.2.2.2.2.2.2.2.2.2.2.2.2.2.2.2.2.2.2.2.2.2.2.1
theorem SM.l26 {Γ : xSh} {m : Nat} (h : SM Γ m) : gLen Γ (m + 7) = 30 := gLen_of h.2.2.2.2.2.2.2.2.2.2.2.2.2.2.2.2.2.2.2.2.2.2.2.2.2.2.1
theorem SM.e26 {Γ : xSh} {m : Nat} (h : SM Γ m) : (∃ ty, gArr Γ (m + 7) ty) = True := eq_true ⟨_, _, h.2.2.2.2.2.2.2.2.2.2.2.2.2.2.2.2.2.2.2.2.2.2.2.2.2.2.1⟩
theorem SM.a26 {Γ : xSh} {m : Nat} (h : SM Γ m) : gArr Γ (m + 7) .int = True := gArr_of h.2.2.2.2.2.2.2.2.2.2.2.2.2.2.2.2.2.2.2.2.2.2.2.2.2.2.1
theorem SM.f27 {Γ : xSh} {m : Nat} (h : SM Γ m) : gK Γ (m + 8) = some (.inr (.int, 30)) := h.2.2.2.2.2.2.2.2.2.2.2.2.2.2.2.2.2.2.2.2.2.2.2.2.2.2.2.1
theorem SM.l27 {Γ : xSh} {m : Nat} (h : SM Γ m) : gLen Γ (m + 8) = 30 := gLen_of h.2.2.2.2.2.2.2.2.2.2.2.2.2.2.2.2.2.2.2.2.2.2.2.2.2.2.2.1
theorem SM.e27 {Γ : xSh} {m : Nat} (h : SM Γ m) : (∃ ty, gArr Γ (m + 8) ty) = True := eq_true ⟨_, _, h.2.2.2.2.2.2.2.2.2.2.2.2.2.2.2.2.2.2.2.2.2.2.2.2.2.2.2.1⟩
theorem SM.a27 {Γ : xSh} {m : Nat} (h : SM Γ m) : gArr Γ (m + 8) .int = True := gArr_of h.2.2.2.2.2.2.2.2.2.2.2.2.2.2.2.2.2.2.2.2.2.2.2.2.2.2.2.1
theorem SM.f28 {Γ : xSh} {m : Nat} (h : SM Γ m) : gK Γ (m + 9) = some (.inr (.int, 30)) := h.2.2.2.2.2.2.2.2.2.2.2.2.2.2.2.2.2.2.2.2.2.2.2.2.2.2.2.2.1
theorem SM.l28 {Γ : xSh} {m : Nat} (h : SM Γ m) : gLen Γ (m + 9) = 30 := gLen_of h.2.2.2.2.2.2.2.2.2.2.2.2.2.2.2.2.2.2.2.2.2.2.2.2.2.2.2.2.1
theorem SM.e28 {Γ : xSh} {m : Nat} (h : SM Γ m) : (∃ ty, gArr Γ (m + 9) ty) = True := eq_true ⟨_, _, h.2.2.2.2.2.2.2.2.2.2.2.2.2.2.2.2.2.2.2.2.2.2.2.2.2.2.2.2.1⟩
theorem SM.a28 {Γ : xSh} {m : Nat} (h : SM Γ m) : gArr Γ (m + 9) .int = True := gArr_of h.2.2.2.2.2.2.2.2.2.2.2.2.2.2.2.2.2.2.2.2.2.2.2.2.2.2.2.2.1
theorem SM.f29 {Γ : xSh} {m : Nat} (h : SM Γ m) : gK Γ (m + 10) = some (.inr (.boolean, 30)) := h.2.2.2.2.2.2.2.2.2.2.2.2.2.2.2.2.2.2.2.2.2.2.2.2.2.2.2.2.2.1
theorem SM.l29 {Γ : xSh} {m : Nat} (h : SM Γ m) : gLen Γ (m + 10) = 30 := gLen_of h.2.2.2.2.2.2.2.2.2.2.2.2.2.2.2.2.2.2.2.2.2.2.2.2.2.2.2.2.2.1
theorem SM.e29 {Γ : xSh} {m : Nat} (h : SM Γ m) : (∃ ty, gArr Γ (m + 10) ty) = True := eq_true ⟨_, _, h.2.2.2.2.2.2.2.2.2.2.2.2.2.2.2.2.2.2.2.2.2.2.2.2.2.2.2.2.2.1⟩
theorem SM.a29 {Γ : xSh} {m : Nat} (h : SM Γ m) : gArr Γ (m + 10) .boolean = True := gArr_of h.2.2.2.2.2.2.2.2.2.2.2.2.2.2.2.2.2.2.2.2.2.2.2.2.2.2.2.2.2.1
theorem SM.f30 {Γ : xSh} {m : Nat} (h : SM Γ m) : gK Γ (m + 11) = some (.inr (.int, 6)) := h.2.2.2.2.2.2.2.2.2.2.2.2.2.2.2.2.2.2.2.2.2.2.2.2.2.2.2.2.2.2.1
theorem SM.l30 {Γ : xSh} {m : Nat} (h : SM Γ m) : gLen Γ (m + 11) = 6 := gLen_of h.2.2.2.2.2.2.2.2.2.2.2.2.2.2.2.2.2.2.2.2.2.2.2.2.2.2.2.2.2.2.1
theorem SM.e30 {Γ : xSh} {m : Nat} (h : SM Γ m) : (∃ ty, gArr Γ (m + 11) ty) = True := eq_true ⟨_, _, h.2.2.2.2.2.2.2.2.2.2.2.2.2.2.2.2.2.2.2.2.2.2.2.2.2.2.2.2.2.2.1⟩
theorem SM.a30 {Γ : xSh} {m : Nat} (h : SM Γ m) : gArr Γ (m + 11) .int = True := gArr_of h.2.2.2.2.2.2.2.2.2.2.2.2.2.2.2.2.2.2.2.2.2.2.2.2.2.2.2.2.2.2.1
theorem SM.f31 {Γ : xSh} {m : Nat} (h : SM Γ m) : gK Γ (m + 12) = some (.inr (.int, 6)) := h.2.2.2.2.2.2.2.2.2.2.2.2.2.2.2.2.2.2.2.2.2.2.2.2.2.2.2.2.2.2.2.1
theorem SM.l31 {Γ : xSh} {m : Nat} (h : SM Γ m) : gLen Γ (m + 12) = 6 := gLen_of h.2.2.2.2.2.2.2.2.2.2.2.2.2.2.2.2.2.2.2.2.2.2.2.2.2.2.2.2.2.2.2.1
theorem SM.e31 {Γ : xSh} {m : Nat} (h : SM Γ m) : (∃ ty, gArr Γ (m + 12) ty) = True := eq_true ⟨_, _, h.2.2.2.2.2.2.2.2.2.2.2.2.2.2.2.2.2.2.2.2.2.2.2.2.2.2.2.2.2.2.2.1⟩
theorem SM.a31 {Γ : xSh} {m : Nat} (h : SM Γ m) : gArr Γ (m + 12) .int = True := gArr_of h.2.2.2.2.2.2.2.2.2.2.2.2.2.2.2.2.2.2.2.2.2.2.2.2.2.2.2.2.2.2.2.1
theorem SM.f32 {Γ : xSh} {m : Nat} (h : SM Γ m) : gK Γ (m + 13) = some (.inr (.int, 6)) := h.2.2.2.2.2.2.2.2.2.2.2.2.2.2.2.2.2.2.2.2.2.2.2.2.2.2.2.2.2.2.2.2.1
theorem SM.l32 {Γ : xSh} {m : Nat} (h : SM Γ m) : gLen Γ (m + 13) = 6 := gLen_of h.2.2.2.2.2.2.2.2.2.2.2.2.2.2.2.2.2.2.2.2.2.2.2.2.2.2.2.2.2.2.2.2.1
theorem SM.e32 {Γ : xSh} {m : Nat} (h : SM Γ m) : (∃ ty, gArr Γ (m + 13) ty) = True := eq_true ⟨_, _, h.2.2.2.2.2.2.2.2.2.2.2.2.2.2.2.2.2.2.2.2.2.2.2.2.2.2.2.2.2.2.2.2.1⟩
theorem SM.a32 {Γ : xSh} {m : Nat} (h : SM Γ m) : gArr Γ (m + 13) .int = True := gArr_of h.2.2.2.2.2.2.2.2.2.2.2.2.2.2.2.2.2.2.2.2.2.2.2.2.2.2.2.2.2.2.2.2.1
theorem SM.f33 {Γ : xSh} {m : Nat} (h : SM Γ m) : gK Γ (m + 14) = some (.inr (.int, 18)) := h.2.2.2.2.2.2.2.2.2.2.2.2.2.2.2.2.2.2.2.2.2.2.2.2.2.2.2.2.2.2.2.2.2.1
theorem SM.l33 {Γ : xSh} {m : Nat} (h : SM Γ m) : gLen Γ (m + 14) = 18 := gLen_of h.2.2.2.2.2.2.2.2.2.2.2.2.2.2.2.2.2.2.2.2.2.2.2.2.2.2.2.2.2.2.2.2.2.1
theorem SM.e33 {Γ : xSh} {m : Nat} (h : SM Γ m) : (∃ ty, gArr Γ (m + 14) ty) = True := eq_true ⟨_, _, h.2.2.2.2.2.2.2.2.2.2.2.2.2.2.2.2.2.2.2.2.2.2.2.2.2.2.2.2.2.2.2.2.2.1⟩
theorem SM.a33 {Γ : xSh} {m : Nat} (h : SM Γ m) : gArr Γ (m + 14) .int = True := gArr_of h.2.2.2.2.2.2.2.2.2.2.2.2.2.2.2.2.2.2.2.2.2.2.2.2.2.2.2.2.2.2.2.2.2.1
theorem SM.f34 {Γ : xSh} {m : Nat} (h : SM Γ m) : gK Γ (m + 15) = some (.inr (.int, 10)) := h.2.2.2.2.2.2.2.2.2.2.2.2.2.2.2.2.2.2.2.2.2.2.2.2.2.2.2.2.2.2.2.2.2.2.1
theorem SM.l34 {Γ : xSh} {m : Nat} (h : SM Γ m) : gLen Γ (m + 15) = 10 := gLen_of h.2.2.2.2.2.2.2.2.2.2.2.2.2.2.2.2.2.2.2.2.2.2.2.2.2.2.2.2.2.2.2.2.2.2.1
theorem SM.e34 {Γ : xSh} {m : Nat} (h : SM Γ m) : (∃ ty, gArr Γ (m + 15) ty) = True := eq_true ⟨_, _, h.2.2.2.2.2.2.2.2.2.2.2.2.2.2.2.2.2.2.2.2.2.2.2.2.2.2.2.2.2.2.2.2.2.2.1⟩
theorem SM.a34 {Γ : xSh} {m : Nat} (h : SM Γ m) : gArr Γ (m + 15) .int = True := gArr_of h.2.2.2.2.2.2.2.2.2.2.2.2.2.2.2.2.2.2.2.2.2.2.2.2.2.2.2.2.2.2.2.2.2.2.1
theorem SM.f35 {Γ : xSh} {m : Nat} (h : SM Γ m) : gK Γ (m + 16) = some (.inr (.boolean, 4)) := h.2.2.2.2.2.2.2.2.2.2.2.2.2.2.2.2.2.2.2.2.2.2.2.2.2.2.2.2.2.2.2.2.2.2.2.1
theorem SM.l35 {Γ : xSh} {m : Nat} (h : SM Γ m) : gLen Γ (m + 16) = 4 := gLen_of h.2.2.2.2.2.2.2.2.2.2.2.2.2.2.2.2.2.2.2.2.2.2.2.2.2.2.2.2.2.2.2.2.2.2.2.1
theorem SM.e35 {Γ : xSh} {m : Nat} (h : SM Γ m) : (∃ ty, gArr Γ (m + 16) ty) = True := eq_true ⟨_, _, h.2.2.2.2.2.2.2.2.2.2.2.2.2.2.2.2.2.2.2.2.2.2.2.2.2.2.2.2.2.2.2.2.2.2.2.1⟩
theorem SM.a35 {Γ : xSh} {m : Nat} (h : SM Γ m) : gArr Γ (m + 16) .boolean = True := gArr_of h.2.2.2.2.2.2.2.2.2.2.2.2.2.2.2.2.2.2.2.2.2.2.2.2.2.2.2.2.2.2.2.2.2.2.2.1
theorem SM.f36 {Γ : xSh} {m : Nat} (h : SM Γ m) : gK Γ (m + 17) = some (.inr (.int, 4)) := h.2.2.2.2.2.2.2.2.2.2.2.2.2.2.2.2.2.2.2.2.2.2.2.2.2.2.2.2.2.2.2.2.2.2.2.2.1
theorem SM.l36 {Γ : xSh} {m : Nat} (h : SM Γ m) : gLen Γ (m + 17) = 4 := gLen_of h.2.2.2.2.2.2.2.2.2.2.2.2.2.2.2.2.2.2.2.2.2.2.2.2.2.2.2.2.2.2.2.2.2.2.2.2.1
theorem SM.e36 {Γ : xSh} {m : Nat} (h : SM Γ m) : (∃ ty, gArr Γ (m + 17) ty) = True := eq_true ⟨_, _, h.2.2.2.2.2.2.2.2.2.2.2.2.2.2.2.2.2.2.2.2.2.2.2.2.2.2.2.2.2.2.2.2.2.2.2.2.1⟩
theorem SM.a36 {Γ : xSh} {m : Nat} (h : SM Γ m) : gArr Γ (m + 17) .int = True := gArr_of h.2.2.2.2.2.2.2.2.2.2.2.2.2.2.2.2.2.2.2.2.2.2.2.2.2.2.2.2.2.2.2.2.2.2.2.2.1
theorem SM.f37 {Γ : xSh} {m : Nat} (h : SM Γ m) : gK Γ (m + 18) = some (.inr (.int, 4)) := h.2.2.2.2.2.2.2.2.2.2.2.2.2.2.2.2.2.2.2.2.2.2.2.2.2.2.2.2.2.2.2.2.2.2.2.2.2.1
theorem SM.l37 {Γ : xSh} {m : Nat} (h : SM Γ m) : gLen Γ (m + 18) = 4 := gLen_of h.2.2.2.2.2.2.2.2.2.2.2.2.2.2.2.2.2.2.2.2.2.2.2.2.2.2.2.2.2.2.2.2.2.2.2.2.2.1
theorem SM.e37 {Γ : xSh} {m : Nat} (h : SM Γ m) : (∃ ty, gArr Γ (m + 18) ty) = True := eq_true ⟨_, _, h.2.2.2.2.2.2.2.2.2.2.2.2.2.2.2.2.2.2.2.2.2.2.2.2.2.2.2.2.2.2.2.2.2.2.2.2.2.1⟩
theorem SM.a37 {Γ : xSh} {m : Nat} (h : SM Γ m) : gArr Γ (m + 18) .int = True := gArr_of h.2.2.2.2.2.2.2.2.2.2.2.2.2.2.2.2.2.2.2.2.2.2.2.2.2.2.2.2.2.2.2.2.2.2.2.2.2.1
theorem SM.f38 {Γ : xSh} {m : Nat} (h : SM Γ m) : gK Γ (m + 19) = some (.inr (.int, 160)) := h.2.2.2.2.2.2.2.2.2.2.2.2.2.2.2.2.2.2.2.2.2.2.2.2.2.2.2.2.2.2.2.2.2.2.2.2.2.2
theorem SM.l38 {Γ : xSh} {m : Nat} (h : SM Γ m) : gLen Γ (m + 19) = 160 := gLen_of h.2.2.2.2.2.2.2.2.2.2.2.2.2.2.2.2.2.2.2.2.2.2.2.2.2.2.2.2.2.2.2.2.2.2.2.2.2.2
theorem SM.e38 {Γ : xSh} {m : Nat} (h : SM Γ m) : (∃ ty, gArr Γ (m + 19) ty) = True := eq_true ⟨_, _, h.2.2.2.2.2.2.2.2.2.2.2.2.2.2.2.2.2.2.2.2.2.2.2.2.2.2.2.2.2.2.2.2.2.2.2.2.2.2⟩
theorem SM.a38 {Γ : xSh} {m : Nat} (h : SM Γ m) : gArr Γ (m + 19) .int = True := gArr_of h.2.2.2.2.2.2.2.2.2.2.2.2.2.2.2.2.2.2.2.2.2.2.2.2.2.2.2.2.2.2.2.2.2.2.2.2.2.2
