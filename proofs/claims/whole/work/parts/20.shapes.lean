/-! shapes of the objects: printed by wip/whole/mk.py -/
def SW (Γ : xSh) (w tx : Nat) : Prop := gK Γ (w) = some (.inl 4) ∧ gF Γ (w) 0 = some (tx) ∧ gF Γ (w) 5 = some (w + 1) ∧ gF Γ (w) 6 = some (w + 2) ∧ gF Γ (w) 7 = some (w + 3) ∧ gF Γ (w) 8 = some (w + 4) ∧ gF Γ (w) 9 = some (w + 5) ∧ gF Γ (w) 10 = some (w + 6) ∧ gF Γ (w) 11 = some (w + 7) ∧ gK Γ (w + 1) = some (.inr (.int, 6)) ∧ gK Γ (w + 2) = some (.inr (.int, 6)) ∧ gK Γ (w + 3) = some (.inr (.int, 6)) ∧ gK Γ (w + 4) = some (.inr (.int, 6)) ∧ gK Γ (w + 5) = some (.inr (.int, 5)) ∧ gK Γ (w + 6) = some (.inr (.int, 5)) ∧ gK Γ (w + 7) = some (.inr (.int, 6))
theorem SW.f0 {Γ : xSh} {w tx : Nat} (h : SW Γ w tx) : gK Γ (w) = some (.inl 4) := h.1
theorem SW.f1 {Γ : xSh} {w tx : Nat} (h : SW Γ w tx) : gF Γ (w) 0 = some (tx) := h.2.1
theorem SW.f2 {Γ : xSh} {w tx : Nat} (h : SW Γ w tx) : gF Γ (w) 5 = some (w + 1) := h.2.2.1
theorem SW.f3 {Γ : xSh} {w tx : Nat} (h : SW Γ w tx) : gF Γ (w) 6 = some (w + 2) := h.2.2.2.1
theorem SW.f4 {Γ : xSh} {w tx : Nat} (h : SW Γ w tx) : gF Γ (w) 7 = some (w + 3) := h.2.2.2.2.1
theorem SW.f5 {Γ : xSh} {w tx : Nat} (h : SW Γ w tx) : gF Γ (w) 8 = some (w + 4) := h.2.2.2.2.2.1
theorem SW.f6 {Γ : xSh} {w tx : Nat} (h : SW Γ w tx) : gF Γ (w) 9 = some (w + 5) := h.2.2.2.2.2.2.1
theorem SW.f7 {Γ : xSh} {w tx : Nat} (h : SW Γ w tx) : gF Γ (w) 10 = some (w + 6) := h.2.2.2.2.2.2.2.1
theorem SW.f8 {Γ : xSh} {w tx : Nat} (h : SW Γ w tx) : gF Γ (w) 11 = some (w + 7) := h.2.2.2.2.2.2.2.2.1
theorem SW.f9 {Γ : xSh} {w tx : Nat} (h : SW Γ w tx) : gK Γ (w + 1) = some (.inr (.int, 6)) := h.2.2.2.2.2.2.2.2.2.1
theorem SW.l9 {Γ : xSh} {w tx : Nat} (h : SW Γ w tx) : gLen Γ (w + 1) = 6 := gLen_of h.2.2.2.2.2.2.2.2.2.1
theorem SW.e9 {Γ : xSh} {w tx : Nat} (h : SW Γ w tx) : (∃ ty, gArr Γ (w + 1) ty) = True := eq_true ⟨_, _, h.2.2.2.2.2.2.2.2.2.1⟩
theorem SW.a9 {Γ : xSh} {w tx : Nat} (h : SW Γ w tx) : gArr Γ (w + 1) .int = True := gArr_of h.2.2.2.2.2.2.2.2.2.1
theorem SW.f10 {Γ : xSh} {w tx : Nat} (h : SW Γ w tx) : gK Γ (w + 2) = some (.inr (.int, 6)) := h.2.2.2.2.2.2.2.2.2.2.1
theorem SW.l10 {Γ : xSh} {w tx : Nat} (h : SW Γ w tx) : gLen Γ (w + 2) = 6 := gLen_of h.2.2.2.2.2.2.2.2.2.2.1
theorem SW.e10 {Γ : xSh} {w tx : Nat} (h : SW Γ w tx) : (∃ ty, gArr Γ (w + 2) ty) = True := eq_true ⟨_, _, h.2.2.2.2.2.2.2.2.2.2.1⟩
theorem SW.a10 {Γ : xSh} {w tx : Nat} (h : SW Γ w tx) : gArr Γ (w + 2) .int = True := gArr_of h.2.2.2.2.2.2.2.2.2.2.1
theorem SW.f11 {Γ : xSh} {w tx : Nat} (h : SW Γ w tx) : gK Γ (w + 3) = some (.inr (.int, 6)) := h.2.2.2.2.2.2.2.2.2.2.2.1
theorem SW.l11 {Γ : xSh} {w tx : Nat} (h : SW Γ w tx) : gLen Γ (w + 3) = 6 := gLen_of h.2.2.2.2.2.2.2.2.2.2.2.1
theorem SW.e11 {Γ : xSh} {w tx : Nat} (h : SW Γ w tx) : (∃ ty, gArr Γ (w + 3) ty) = True := eq_true ⟨_, _, h.2.2.2.2.2.2.2.2.2.2.2.1⟩
theorem SW.a11 {Γ : xSh} {w tx : Nat} (h : SW Γ w tx) : gArr Γ (w + 3) .int = True := gArr_of h.2.2.2.2.2.2.2.2.2.2.2.1
theorem SW.f12 {Γ : xSh} {w tx : Nat} (h : SW Γ w tx) : gK Γ (w + 4) = some (.inr (.int, 6)) := h.2.2.2.2.2.2.2.2.2.2.2.2.1
theorem SW.l12 {Γ : xSh} {w tx : Nat} (h : SW Γ w tx) : gLen Γ (w + 4) = 6 := gLen_of h.2.2.2.2.2.2.2.2.2.2.2.2.1
theorem SW.e12 {Γ : xSh} {w tx : Nat} (h : SW Γ w tx) : (∃ ty, gArr Γ (w + 4) ty) = True := eq_true ⟨_, _, h.2.2.2.2.2.2.2.2.2.2.2.2.1⟩
theorem SW.a12 {Γ : xSh} {w tx : Nat} (h : SW Γ w tx) : gArr Γ (w + 4) .int = True := gArr_of h.2.2.2.2.2.2.2.2.2.2.2.2.1
theorem SW.f13 {Γ : xSh} {w tx : Nat} (h : SW Γ w tx) : gK Γ (w + 5) = some (.inr (.int, 5)) := h.2.2.2.2.2.2.2.2.2.2.2.2.2.1
theorem SW.l13 {Γ : xSh} {w tx : Nat} (h : SW Γ w tx) : gLen Γ (w + 5) = 5 := gLen_of h.2.2.2.2.2.2.2.2.2.2.2.2.2.1
theorem SW.e13 {Γ : xSh} {w tx : Nat} (h : SW Γ w tx) : (∃ ty, gArr Γ (w + 5) ty) = True := eq_true ⟨_, _, h.2.2.2.2.2.2.2.2.2.2.2.2.2.1⟩
theorem SW.a13 {Γ : xSh} {w tx : Nat} (h : SW Γ w tx) : gArr Γ (w + 5) .int = True := gArr_of h.2.2.2.2.2.2.2.2.2.2.2.2.2.1
theorem SW.f14 {Γ : xSh} {w tx : Nat} (h : SW Γ w tx) : gK Γ (w + 6) = some (.inr (.int, 5)) := h.2.2.2.2.2.2.2.2.2.2.2.2.2.2.1
theorem SW.l14 {Γ : xSh} {w tx : Nat} (h : SW Γ w tx) : gLen Γ (w + 6) = 5 := gLen_of h.2.2.2.2.2.2.2.2.2.2.2.2.2.2.1
theorem SW.e14 {Γ : xSh} {w tx : Nat} (h : SW Γ w tx) : (∃ ty, gArr Γ (w + 6) ty) = True := eq_true ⟨_, _, h.2.2.2.2.2.2.2.2.2.2.2.2.2.2.1⟩
theorem SW.a14 {Γ : xSh} {w tx : Nat} (h : SW Γ w tx) : gArr Γ (w + 6) .int = True := gArr_of h.2.2.2.2.2.2.2.2.2.2.2.2.2.2.1
theorem SW.f15 {Γ : xSh} {w tx : Nat} (h : SW Γ w tx) : gK Γ (w + 7) = some (.inr (.int, 6)) := h.2.2.2.2.2.2.2.2.2.2.2.2.2.2.2
theorem SW.l15 {Γ : xSh} {w tx : Nat} (h : SW Γ w tx) : gLen Γ (w + 7) = 6 := gLen_of h.2.2.2.2.2.2.2.2.2.2.2.2.2.2.2
theorem SW.e15 {Γ : xSh} {w tx : Nat} (h : SW Γ w tx) : (∃ ty, gArr Γ (w + 7) ty) = True := eq_true ⟨_, _, h.2.2.2.2.2.2.2.2.2.2.2.2.2.2.2⟩
theorem SW.a15 {Γ : xSh} {w tx : Nat} (h : SW Γ w tx) : gArr Γ (w + 7) .int = True := gArr_of h.2.2.2.2.2.2.2.2.2.2.2.2.2.2.2
def ST (Γ : xSh) (t : Nat) : Prop := gK Γ (t) = some (.inl 3) ∧ gF Γ (t) 0 = some (t + 1) ∧ gF Γ (t) 1 = some (t + 2) ∧ gF Γ (t) 2 = some (t + 3) ∧ gK Γ (t + 1) = some (.inr (.int, 160)) ∧ gK Γ (t + 2) = some (.inr (.int, 3)) ∧ gK Γ (t + 3) = some (.inr (.int, 32))
theorem ST.f0 {Γ : xSh} {t : Nat} (h : ST Γ t) : gK Γ (t) = some (.inl 3) := h.1
theorem ST.f1 {Γ : xSh} {t : Nat} (h : ST Γ t) : gF Γ (t) 0 = some (t + 1) := h.2.1
theorem ST.f2 {Γ : xSh} {t : Nat} (h : ST Γ t) : gF Γ (t) 1 = some (t + 2) := h.2.2.1
theorem ST.f3 {Γ : xSh} {t : Nat} (h : ST Γ t) : gF Γ (t) 2 = some (t + 3) := h.2.2.2.1
theorem ST.f4 {Γ : xSh} {t : Nat} (h : ST Γ t) : gK Γ (t + 1) = some (.inr (.int, 160)) := h.2.2.2.2.1
theorem ST.l4 {Γ : xSh} {t : Nat} (h : ST Γ t) : gLen Γ (t + 1) = 160 := gLen_of h.2.2.2.2.1
theorem ST.e4 {Γ : xSh} {t : Nat} (h : ST Γ t) : (∃ ty, gArr Γ (t + 1) ty) = True := eq_true ⟨_, _, h.2.2.2.2.1⟩
theorem ST.a4 {Γ : xSh} {t : Nat} (h : ST Γ t) : gArr Γ (t + 1) .int = True := gArr_of h.2.2.2.2.1
theorem ST.f5 {Γ : xSh} {t : Nat} (h : ST Γ t) : gK Γ (t + 2) = some (.inr (.int, 3)) := h.2.2.2.2.2.1
theorem ST.l5 {Γ : xSh} {t : Nat} (h : ST Γ t) : gLen Γ (t + 2) = 3 := gLen_of h.2.2.2.2.2.1
theorem ST.e5 {Γ : xSh} {t : Nat} (h : ST Γ t) : (∃ ty, gArr Γ (t + 2) ty) = True := eq_true ⟨_, _, h.2.2.2.2.2.1⟩
theorem ST.a5 {Γ : xSh} {t : Nat} (h : ST Γ t) : gArr Γ (t + 2) .int = True := gArr_of h.2.2.2.2.2.1
theorem ST.f6 {Γ : xSh} {t : Nat} (h : ST Γ t) : gK Γ (t + 3) = some (.inr (.int, 32)) := h.2.2.2.2.2.2
theorem ST.l6 {Γ : xSh} {t : Nat} (h : ST Γ t) : gLen Γ (t + 3) = 32 := gLen_of h.2.2.2.2.2.2
theorem ST.e6 {Γ : xSh} {t : Nat} (h : ST Γ t) : (∃ ty, gArr Γ (t + 3) ty) = True := eq_true ⟨_, _, h.2.2.2.2.2.2⟩
theorem ST.a6 {Γ : xSh} {t : Nat} (h : ST Γ t) : gArr Γ (t + 3) .int = True := gArr_of h.2.2.2.2.2.2
def SS (Γ : xSh) (t : Nat) : Prop := gK Γ (t) = some (.inl 1) ∧ gF Γ (t) 2 = some (t + 1) ∧ gK Γ (t + 1) = some (.inr (.int, 40))
theorem SS.f0 {Γ : xSh} {t : Nat} (h : SS Γ t) : gK Γ (t) = some (.inl 1) := h.1
theorem SS.f1 {Γ : xSh} {t : Nat} (h : SS Γ t) : gF Γ (t) 2 = some (t + 1) := h.2.1
theorem SS.f2 {Γ : xSh} {t : Nat} (h : SS Γ t) : gK Γ (t + 1) = some (.inr (.int, 40)) := h.2.2
theorem SS.l2 {Γ : xSh} {t : Nat} (h : SS Γ t) : gLen Γ (t + 1) = 40 := gLen_of h.2.2
theorem SS.e2 {Γ : xSh} {t : Nat} (h : SS Γ t) : (∃ ty, gArr Γ (t + 1) ty) = True := eq_true ⟨_, _, h.2.2⟩
theorem SS.a2 {Γ : xSh} {t : Nat} (h : SS Γ t) : gArr Γ (t + 1) .int = True := gArr_of h.2.2
def SK (Γ : xSh) (t : Nat) : Prop := gK Γ (t) = some (.inl 0) ∧ gF Γ (t) 0 = some (t + 1) ∧ gF Γ (t) 1 = some (t + 7) ∧ gF Γ (t) 2 = some (t + 13) ∧ gF Γ (t) 3 = some (t + 19) ∧ gF Γ (t) 4 = some (t + 20) ∧ gF Γ (t) 5 = some (t + 21) ∧ gF Γ (t) 6 = some (t + 22) ∧ gF Γ (t) 7 = some (t + 23) ∧ gK Γ (t + 19) = some (.inr (.int, 6)) ∧ gK Γ (t + 20) = some (.inr (.int, 6)) ∧ gK Γ (t + 21) = some (.inr (.int, 5)) ∧ gK Γ (t + 22) = some (.inr (.int, 5)) ∧ gK Γ (t + 23) = some (.inr (.int, 6)) ∧ gK Γ (t + 1) = some (.inr ((.array .int), 5)) ∧ gK Γ (t + 7) = some (.inr ((.array .int), 5)) ∧ gK Γ (t + 13) = some (.inr ((.array .int), 5))
theorem SK.f0 {Γ : xSh} {t : Nat} (h : SK Γ t) : gK Γ (t) = some (.inl 0) := h.1
theorem SK.f1 {Γ : xSh} {t : Nat} (h : SK Γ t) : gF Γ (t) 0 = some (t + 1) := h.2.1
theorem SK.f2 {Γ : xSh} {t : Nat} (h : SK Γ t) : gF Γ (t) 1 = some (t + 7) := h.2.2.1
theorem SK.f3 {Γ : xSh} {t : Nat} (h : SK Γ t) : gF Γ (t) 2 = some (t + 13) := h.2.2.2.1
theorem SK.f4 {Γ : xSh} {t : Nat} (h : SK Γ t) : gF Γ (t) 3 = some (t + 19) := h.2.2.2.2.1
theorem SK.f5 {Γ : xSh} {t : Nat} (h : SK Γ t) : gF Γ (t) 4 = some (t + 20) := h.2.2.2.2.2.1
theorem SK.f6 {Γ : xSh} {t : Nat} (h : SK Γ t) : gF Γ (t) 5 = some (t + 21) := h.2.2.2.2.2.2.1
theorem SK.f7 {Γ : xSh} {t : Nat} (h : SK Γ t) : gF Γ (t) 6 = some (t + 22) := h.2.2.2.2.2.2.2.1
theorem SK.f8 {Γ : xSh} {t : Nat} (h : SK Γ t) : gF Γ (t) 7 = some (t + 23) := h.2.2.2.2.2.2.2.2.1
theorem SK.f9 {Γ : xSh} {t : Nat} (h : SK Γ t) : gK Γ (t + 19) = some (.inr (.int, 6)) := h.2.2.2.2.2.2.2.2.2.1
theorem SK.l9 {Γ : xSh} {t : Nat} (h : SK Γ t) : gLen Γ (t + 19) = 6 := gLen_of h.2.2.2.2.2.2.2.2.2.1
theorem SK.e9 {Γ : xSh} {t : Nat} (h : SK Γ t) : (∃ ty, gArr Γ (t + 19) ty) = True := eq_true ⟨_, _, h.2.2.2.2.2.2.2.2.2.1⟩
theorem SK.a9 {Γ : xSh} {t : Nat} (h : SK Γ t) : gArr Γ (t + 19) .int = True := gArr_of h.2.2.2.2.2.2.2.2.2.1
theorem SK.f10 {Γ : xSh} {t : Nat} (h : SK Γ t) : gK Γ (t + 20) = some (.inr (.int, 6)) := h.2.2.2.2.2.2.2.2.2.2.1
theorem SK.l10 {Γ : xSh} {t : Nat} (h : SK Γ t) : gLen Γ (t + 20) = 6 := gLen_of h.2.2.2.2.2.2.2.2.2.2.1
theorem SK.e10 {Γ : xSh} {t : Nat} (h : SK Γ t) : (∃ ty, gArr Γ (t + 20) ty) = True := eq_true ⟨_, _, h.2.2.2.2.2.2.2.2.2.2.1⟩
theorem SK.a10 {Γ : xSh} {t : Nat} (h : SK Γ t) : gArr Γ (t + 20) .int = True := gArr_of h.2.2.2.2.2.2.2.2.2.2.1
theorem SK.f11 {Γ : xSh} {t : Nat} (h : SK Γ t) : gK Γ (t + 21) = some (.inr (.int, 5)) := h.2.2.2.2.2.2.2.2.2.2.2.1
theorem SK.l11 {Γ : xSh} {t : Nat} (h : SK Γ t) : gLen Γ (t + 21) = 5 := gLen_of h.2.2.2.2.2.2.2.2.2.2.2.1
theorem SK.e11 {Γ : xSh} {t : Nat} (h : SK Γ t) : (∃ ty, gArr Γ (t + 21) ty) = True := eq_true ⟨_, _, h.2.2.2.2.2.2.2.2.2.2.2.1⟩
theorem SK.a11 {Γ : xSh} {t : Nat} (h : SK Γ t) : gArr Γ (t + 21) .int = True := gArr_of h.2.2.2.2.2.2.2.2.2.2.2.1
theorem SK.f12 {Γ : xSh} {t : Nat} (h : SK Γ t) : gK Γ (t + 22) = some (.inr (.int, 5)) := h.2.2.2.2.2.2.2.2.2.2.2.2.1
theorem SK.l12 {Γ : xSh} {t : Nat} (h : SK Γ t) : gLen Γ (t + 22) = 5 := gLen_of h.2.2.2.2.2.2.2.2.2.2.2.2.1
theorem SK.e12 {Γ : xSh} {t : Nat} (h : SK Γ t) : (∃ ty, gArr Γ (t + 22) ty) = True := eq_true ⟨_, _, h.2.2.2.2.2.2.2.2.2.2.2.2.1⟩
theorem SK.a12 {Γ : xSh} {t : Nat} (h : SK Γ t) : gArr Γ (t + 22) .int = True := gArr_of h.2.2.2.2.2.2.2.2.2.2.2.2.1
theorem SK.f13 {Γ : xSh} {t : Nat} (h : SK Γ t) : gK Γ (t + 23) = some (.inr (.int, 6)) := h.2.2.2.2.2.2.2.2.2.2.2.2.2.1
theorem SK.l13 {Γ : xSh} {t : Nat} (h : SK Γ t) : gLen Γ (t + 23) = 6 := gLen_of h.2.2.2.2.2.2.2.2.2.2.2.2.2.1
theorem SK.e13 {Γ : xSh} {t : Nat} (h : SK Γ t) : (∃ ty, gArr Γ (t + 23) ty) = True := eq_true ⟨_, _, h.2.2.2.2.2.2.2.2.2.2.2.2.2.1⟩
theorem SK.a13 {Γ : xSh} {t : Nat} (h : SK Γ t) : gArr Γ (t + 23) .int = True := gArr_of h.2.2.2.2.2.2.2.2.2.2.2.2.2.1
theorem SK.f14 {Γ : xSh} {t : Nat} (h : SK Γ t) : gK Γ (t + 1) = some (.inr ((.array .int), 5)) := h.2.2.2.2.2.2.2.2.2.2.2.2.2.2.1
theorem SK.l14 {Γ : xSh} {t : Nat} (h : SK Γ t) : gLen Γ (t + 1) = 5 := gLen_of h.2.2.2.2.2.2.2.2.2.2.2.2.2.2.1
theorem SK.a14 {Γ : xSh} {t : Nat} (h : SK Γ t) : (∃ ty, gArr Γ (t + 1) ty ∧ ty.isReference = true) = True := eq_true ⟨_, ⟨_, h.2.2.2.2.2.2.2.2.2.2.2.2.2.2.1⟩, rfl⟩
theorem SK.f15 {Γ : xSh} {t : Nat} (h : SK Γ t) : gK Γ (t + 7) = some (.inr ((.array .int), 5)) := h.2.2.2.2.2.2.2.2.2.2.2.2.2.2.2.1
theorem SK.l15 {Γ : xSh} {t : Nat} (h : SK Γ t) : gLen Γ (t + 7) = 5 := gLen_of h.2.2.2.2.2.2.2.2.2.2.2.2.2.2.2.1
theorem SK.a15 {Γ : xSh} {t : Nat} (h : SK Γ t) : (∃ ty, gArr Γ (t + 7) ty ∧ ty.isReference = true) = True := eq_true ⟨_, ⟨_, h.2.2.2.2.2.2.2.2.2.2.2.2.2.2.2.1⟩, rfl⟩
theorem SK.f16 {Γ : xSh} {t : Nat} (h : SK Γ t) : gK Γ (t + 13) = some (.inr ((.array .int), 5)) := h.2.2.2.2.2.2.2.2.2.2.2.2.2.2.2.2
theorem SK.l16 {Γ : xSh} {t : Nat} (h : SK Γ t) : gLen Γ (t + 13) = 5 := gLen_of h.2.2.2.2.2.2.2.2.2.2.2.2.2.2.2.2
theorem SK.a16 {Γ : xSh} {t : Nat} (h : SK Γ t) : (∃ ty, gArr Γ (t + 13) ty ∧ ty.isReference = true) = True := eq_true ⟨_, ⟨_, h.2.2.2.2.2.2.2.2.2.2.2.2.2.2.2.2⟩, rfl⟩
def SP (Γ : xSh) (t : Nat) : Prop := gK Γ (t) = some (.inl 2) ∧ gF Γ (t) 0 = some (t + 1) ∧ gK Γ (t + 1) = some (.inr (.int, 160))
theorem SP.f0 {Γ : xSh} {t : Nat} (h : SP Γ t) : gK Γ (t) = some (.inl 2) := h.1
theorem SP.f1 {Γ : xSh} {t : Nat} (h : SP Γ t) : gF Γ (t) 0 = some (t + 1) := h.2.1
theorem SP.f2 {Γ : xSh} {t : Nat} (h : SP Γ t) : gK Γ (t + 1) = some (.inr (.int, 160)) := h.2.2
theorem SP.l2 {Γ : xSh} {t : Nat} (h : SP Γ t) : gLen Γ (t + 1) = 160 := gLen_of h.2.2
theorem SP.e2 {Γ : xSh} {t : Nat} (h : SP Γ t) : (∃ ty, gArr Γ (t + 1) ty) = True := eq_true ⟨_, _, h.2.2⟩
theorem SP.a2 {Γ : xSh} {t : Nat} (h : SP Γ t) : gArr Γ (t + 1) .int = True := gArr_of h.2.2
