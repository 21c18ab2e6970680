/-! ===== the table of the class's 85 cells: kinds, references, what they hold at the start ===== -/
def cTab : List (oKd × List (Nat × Nat)) := [
  (.inl 5, [(0, 1), (2, 2), (7, 4), (8, 28), (3, 61), (4, 69), (5, 77)]),
  (.inr (.object "CrystalByTheMinute$Text", 6), [(0, 29), (1, 33), (2, 37), (3, 41), (4, 45), (5, 49)]),
  (.inl 2, [(0, 3)]),
  (.inr (.int, 160), []),
  (.inl 0, [(0, 5), (1, 11), (2, 17), (3, 23), (4, 24), (5, 25), (6, 26), (7, 27)]),
  (.inr (.array .int, 5), [(0, 6), (1, 7), (2, 8), (3, 9), (4, 10)]),
  (.inr (.int, 6), []),
  (.inr (.int, 6), []),
  (.inr (.int, 6), []),
  (.inr (.int, 6), []),
  (.inr (.int, 6), []),
  (.inr (.array .int, 5), [(0, 12), (1, 13), (2, 14), (3, 15), (4, 16)]),
  (.inr (.int, 6), []),
  (.inr (.int, 6), []),
  (.inr (.int, 6), []),
  (.inr (.int, 6), []),
  (.inr (.int, 6), []),
  (.inr (.array .int, 5), [(0, 18), (1, 19), (2, 20), (3, 21), (4, 22)]),
  (.inr (.int, 6), []),
  (.inr (.int, 6), []),
  (.inr (.int, 6), []),
  (.inr (.int, 6), []),
  (.inr (.int, 6), []),
  (.inr (.int, 6), []),
  (.inr (.int, 6), []),
  (.inr (.int, 5), []),
  (.inr (.int, 5), []),
  (.inr (.int, 6), []),
  (.inr (.object "CrystalByTheMinute$Sheet", 4), [(0, 53), (1, 55), (2, 57), (3, 59)]),
  (.inl 3, [(0, 30), (1, 31), (2, 32)]),
  (.inr (.int, 160), []),
  (.inr (.int, 3), []),
  (.inr (.int, 32), []),
  (.inl 3, [(0, 34), (1, 35), (2, 36)]),
  (.inr (.int, 160), []),
  (.inr (.int, 3), []),
  (.inr (.int, 32), []),
  (.inl 3, [(0, 38), (1, 39), (2, 40)]),
  (.inr (.int, 160), []),
  (.inr (.int, 3), []),
  (.inr (.int, 32), []),
  (.inl 3, [(0, 42), (1, 43), (2, 44)]),
  (.inr (.int, 160), []),
  (.inr (.int, 3), []),
  (.inr (.int, 32), []),
  (.inl 3, [(0, 46), (1, 47), (2, 48)]),
  (.inr (.int, 160), []),
  (.inr (.int, 3), []),
  (.inr (.int, 32), []),
  (.inl 3, [(0, 50), (1, 51), (2, 52)]),
  (.inr (.int, 160), []),
  (.inr (.int, 3), []),
  (.inr (.int, 32), []),
  (.inl 1, [(2, 54)]),
  (.inr (.int, 40), []),
  (.inl 1, [(2, 56)]),
  (.inr (.int, 40), []),
  (.inl 1, [(2, 58)]),
  (.inr (.int, 40), []),
  (.inl 1, [(2, 60)]),
  (.inr (.int, 40), []),
  (.inl 4, [(0, 1), (5, 62), (6, 63), (7, 64), (8, 65), (9, 66), (10, 67), (11, 68)]),
  (.inr (.int, 6), []),
  (.inr (.int, 6), []),
  (.inr (.int, 6), []),
  (.inr (.int, 6), []),
  (.inr (.int, 5), []),
  (.inr (.int, 5), []),
  (.inr (.int, 6), []),
  (.inl 4, [(0, 1), (5, 70), (6, 71), (7, 72), (8, 73), (9, 74), (10, 75), (11, 76)]),
  (.inr (.int, 6), []),
  (.inr (.int, 6), []),
  (.inr (.int, 6), []),
  (.inr (.int, 6), []),
  (.inr (.int, 5), []),
  (.inr (.int, 5), []),
  (.inr (.int, 6), []),
  (.inl 4, [(0, 1), (5, 78), (6, 79), (7, 80), (8, 81), (9, 82), (10, 83), (11, 84)]),
  (.inr (.int, 6), []),
  (.inr (.int, 6), []),
  (.inr (.int, 6), []),
  (.inr (.int, 6), []),
  (.inr (.int, 5), []),
  (.inr (.int, 5), []),
  (.inr (.int, 6), [])]
def cK (o : Nat) : oKd := (cTab.getD o (.inl 0, [])).1
def cF (o : Nat) : List (Nat × Nat) := (cTab.getD o (.inl 0, [])).2
def cZ (o j : Nat) : Int := if (o = 61 ∨ o = 69 ∨ o = 77) ∧ j = 1 then 1 else if (o = 53 ∨ o = 55 ∨ o = 57 ∨ o = 59) ∧ j = 0 then -1 else 0
theorem cZ_0 {o : Nat} (h : ¬ (o = 61 ∨ o = 69 ∨ o = 77)) (h' : ¬ (o = 53 ∨ o = 55 ∨ o = 57 ∨ o = 59)) : cZ o = fun _ => 0 := funext fun j => by
  unfold cZ
  rw [if_neg (fun z => h z.1), if_neg (fun z => h' z.1)]
/-- the first t cells of the class at c are as the table says -/
def PC (μ0 : xMem) (c t : Nat) (μ : xMem) : Prop := gN μ.1 = c + t ∧ Gx c μ0 μ ∧ ∀ o, o < t → gK μ.1 (c + o) = some (cK o) ∧ (∀ p ∈ cF o, p.2 < t → gF μ.1 (c + o) p.1 = some (c + p.2)) ∧ μ.2 (c + o) = cZ o
/-- what the table must say of an object at t with tk cells, referred to by the field f of the cell oq -/
def tOK (t tk oq f : Nat) (KL : List (Nat × oKd)) (FL : List (Nat × Nat × Nat)) : Prop := (0 < t ∧ oq < t) ∧ (∀ i, i < tk → kIn (i, cK (t + i)) KL = true) ∧
  (∀ i, i < tk → ∀ p ∈ cF (t + i), p.2 < t + tk → (t ≤ p.2 ∧ (i, p.1, p.2 - t) ∈ FL) ∨ (i = 0 ∧ p = (0, 1))) ∧
  ∀ o, o < t → ∀ p ∈ cF o, (p.2 < t → o = oq → p.1 ≠ f) ∧ (t ≤ p.2 → p.2 < t + tk → o = oq ∧ p = (f, t))
theorem PC.sub {μ0 μ μ2 : xMem} {c t tk oq f : Nat} {kd : oKd} {r : Nat → Int} {KL : List (Nat × oKd)} {FL : List (Nat × Nat × Nat)} (h : PC μ0 c t μ) (hp : PO (gPush μ.1 kd, zer2 μ.2 (gN μ.1)) (c + t) tk r KL FL μ2) (hT : tOK t tk oq f KL FL) (hr : r = cZ t) (hz : ∀ i, 1 ≤ i → i < tk → cZ (t + i) = fun _ => 0) (hW : (0, 1) ∈ cF t → gF μ2.1 (c + t) 0 = some (c + 1)) :
    PC μ0 c (t + tk) (gSetF μ2.1 (c + oq) f (some (c + t)), μ2.2) := by
  obtain ⟨g1, g2, g3⟩ := h
  obtain ⟨p1, p2, p3, p4, p5, p6, p7⟩ := hp
  obtain ⟨⟨t0, t1⟩, t2, t3, t4⟩ := hT
  have hG : Gx (c + t) μ μ2 := (Gx.rf.push (by omega)).tr p3 (Nat.le_refl _)
  refine ⟨by show gN μ2.1 = _; omega, (g2.tr hG (by omega)).setF (by omega), fun o ho => ?_⟩
  by_cases z : o < t
  · obtain ⟨a1, a2, a3⟩ := g3 o z
    obtain ⟨b1, b2, b3⟩ := hG.2 (c + o) (by omega)
    refine ⟨b1.trans a1, fun p hp hlt => ?_, b3.trans a3⟩
    show (if c + o = c + oq ∧ p.1 = f then some (c + t) else gF μ2.1 (c + o) p.1) = some (c + p.2)
    obtain ⟨u1, u2⟩ := t4 o z p hp
    by_cases y : p.2 < t
    · rw [if_neg (fun w => u1 y (by omega) w.2), b2]
      exact a2 p hp y
    · obtain ⟨v1, v2⟩ := u2 (by omega) hlt
      rw [if_pos ⟨by omega, by rw [v2]⟩, v2]
  · obtain ⟨i, rfl⟩ : ∃ i, o = t + i := ⟨o - t, by omega⟩
    have hi : i < tk := by omega
    have e : c + (t + i) = c + t + i := by omega
    obtain ⟨k1, -⟩ := p4 _ (kIn_mem (t2 i hi))
    refine ⟨?_, fun p hp hlt => ?_, ?_⟩
    · show gK μ2.1 (c + (t + i)) = _
      rw [e]
      exact k1
    · show (if c + (t + i) = c + oq ∧ p.1 = f then some (c + t) else gF μ2.1 (c + (t + i)) p.1) = some (c + p.2)
      rw [if_neg (fun w => by omega), e]
      rcases t3 i hi p hp hlt with ⟨x1, x2⟩ | ⟨x1, x2⟩
      · have y : gF μ2.1 (c + t + i) p.1 = some (c + t + (p.2 - t)) := (p5 _ x2).1
        rw [y]
        congr 1
        omega
      · subst x1
        subst x2
        exact hW hp
    · show μ2.2 (c + (t + i)) = cZ (t + i)
      rw [e]
      by_cases y : i = 0
      · subst y
        exact p6.trans hr
      · rw [p7 i (by omega) hi, hz i (by omega) hi]
/-- all 85 cells: kinds and references -/
def TBL (c : Nat) (Γ : xSh) : Prop := ∀ o, o < 85 → gK Γ (c + o) = some (cK o) ∧ ∀ p ∈ cF o, gF Γ (c + o) p.1 = some (c + p.2)
theorem cF_all : ∀ o, o < 85 → ∀ p ∈ cF o, p.2 < 85 := by decide +kernel
theorem PC.tb {μ0 μ : xMem} {c : Nat} (h : PC μ0 c 85 μ) : TBL c μ.1 := fun o ho => ⟨(h.2.2 o ho).1, fun p hp => (h.2.2 o ho).2.1 p hp (cF_all o ho p hp)⟩
theorem TBL.gx {c n : Nat} {μ μ' : xMem} (h : TBL c μ.1) (hG : Gx n μ μ') (hn : c + 85 ≤ n) : TBL c μ'.1 := fun o ho => by
  obtain ⟨a1, a2, -⟩ := hG.2 (c + o) (by omega)
  exact ⟨a1.trans (h o ho).1, fun p hp => by rw [a2]; exact (h o ho).2 p hp⟩
theorem TBL.k {c k o : Nat} {kd : oKd} {Γ : xSh} (h : TBL c Γ) (hk : k = c + o) (ho : o < 85) (hd : decide (cK o = kd) = true) : gK Γ k = some kd := by
  rw [hk, (h o ho).1, of_decide_eq_true hd]
theorem TBL.f {c k o j x y : Nat} {Γ : xSh} (h : TBL c Γ) (hk : k = c + o) (ho : o < 85) (hm : (j, y) ∈ cF o) (hx : x = c + y) : gF Γ k j = some x := by
  rw [hk, (h o ho).2 _ hm, hx]
theorem TBL.text {c i : Nat} {Γ : xSh} (h : TBL c Γ) (hi : i < 6) : gF Γ (c + 1) i = some (c + 29 + 4 * i) ∧ ST Γ (c + 29 + 4 * i) := by
  have hi : i = 0 ∨ i = 1 ∨ i = 2 ∨ i = 3 ∨ i = 4 ∨ i = 5 := by omega
  rcases hi with rfl | rfl | rfl | rfl | rfl | rfl
  · exact ⟨h.f (o := 1) (y := 29) (by omega) (by decide) (by decide +kernel) (by omega),
      ⟨h.k (o := 29) (by omega) (by decide) (by decide +kernel),
      h.f (o := 29) (y := 30) (by omega) (by decide) (by decide +kernel) (by omega),
      h.f (o := 29) (y := 31) (by omega) (by decide) (by decide +kernel) (by omega),
      h.f (o := 29) (y := 32) (by omega) (by decide) (by decide +kernel) (by omega),
      h.k (o := 30) (by omega) (by decide) (by decide +kernel),
      h.k (o := 31) (by omega) (by decide) (by decide +kernel),
      h.k (o := 32) (by omega) (by decide) (by decide +kernel)⟩⟩
  · exact ⟨h.f (o := 1) (y := 33) (by omega) (by decide) (by decide +kernel) (by omega),
      ⟨h.k (o := 33) (by omega) (by decide) (by decide +kernel),
      h.f (o := 33) (y := 34) (by omega) (by decide) (by decide +kernel) (by omega),
      h.f (o := 33) (y := 35) (by omega) (by decide) (by decide +kernel) (by omega),
      h.f (o := 33) (y := 36) (by omega) (by decide) (by decide +kernel) (by omega),
      h.k (o := 34) (by omega) (by decide) (by decide +kernel),
      h.k (o := 35) (by omega) (by decide) (by decide +kernel),
      h.k (o := 36) (by omega) (by decide) (by decide +kernel)⟩⟩
  · exact ⟨h.f (o := 1) (y := 37) (by omega) (by decide) (by decide +kernel) (by omega),
      ⟨h.k (o := 37) (by omega) (by decide) (by decide +kernel),
      h.f (o := 37) (y := 38) (by omega) (by decide) (by decide +kernel) (by omega),
      h.f (o := 37) (y := 39) (by omega) (by decide) (by decide +kernel) (by omega),
      h.f (o := 37) (y := 40) (by omega) (by decide) (by decide +kernel) (by omega),
      h.k (o := 38) (by omega) (by decide) (by decide +kernel),
      h.k (o := 39) (by omega) (by decide) (by decide +kernel),
      h.k (o := 40) (by omega) (by decide) (by decide +kernel)⟩⟩
  · exact ⟨h.f (o := 1) (y := 41) (by omega) (by decide) (by decide +kernel) (by omega),
      ⟨h.k (o := 41) (by omega) (by decide) (by decide +kernel),
      h.f (o := 41) (y := 42) (by omega) (by decide) (by decide +kernel) (by omega),
      h.f (o := 41) (y := 43) (by omega) (by decide) (by decide +kernel) (by omega),
      h.f (o := 41) (y := 44) (by omega) (by decide) (by decide +kernel) (by omega),
      h.k (o := 42) (by omega) (by decide) (by decide +kernel),
      h.k (o := 43) (by omega) (by decide) (by decide +kernel),
      h.k (o := 44) (by omega) (by decide) (by decide +kernel)⟩⟩
  · exact ⟨h.f (o := 1) (y := 45) (by omega) (by decide) (by decide +kernel) (by omega),
      ⟨h.k (o := 45) (by omega) (by decide) (by decide +kernel),
      h.f (o := 45) (y := 46) (by omega) (by decide) (by decide +kernel) (by omega),
      h.f (o := 45) (y := 47) (by omega) (by decide) (by decide +kernel) (by omega),
      h.f (o := 45) (y := 48) (by omega) (by decide) (by decide +kernel) (by omega),
      h.k (o := 46) (by omega) (by decide) (by decide +kernel),
      h.k (o := 47) (by omega) (by decide) (by decide +kernel),
      h.k (o := 48) (by omega) (by decide) (by decide +kernel)⟩⟩
  · exact ⟨h.f (o := 1) (y := 49) (by omega) (by decide) (by decide +kernel) (by omega),
      ⟨h.k (o := 49) (by omega) (by decide) (by decide +kernel),
      h.f (o := 49) (y := 50) (by omega) (by decide) (by decide +kernel) (by omega),
      h.f (o := 49) (y := 51) (by omega) (by decide) (by decide +kernel) (by omega),
      h.f (o := 49) (y := 52) (by omega) (by decide) (by decide +kernel) (by omega),
      h.k (o := 50) (by omega) (by decide) (by decide +kernel),
      h.k (o := 51) (by omega) (by decide) (by decide +kernel),
      h.k (o := 52) (by omega) (by decide) (by decide +kernel)⟩⟩
theorem TBL.sheet {c i : Nat} {Γ : xSh} (h : TBL c Γ) (hi : i < 4) : gF Γ (c + 28) i = some (c + 53 + 2 * i) ∧ SS Γ (c + 53 + 2 * i) := by
  have hi : i = 0 ∨ i = 1 ∨ i = 2 ∨ i = 3 := by omega
  rcases hi with rfl | rfl | rfl | rfl
  · exact ⟨h.f (o := 28) (y := 53) (by omega) (by decide) (by decide +kernel) (by omega),
      ⟨h.k (o := 53) (by omega) (by decide) (by decide +kernel),
      h.f (o := 53) (y := 54) (by omega) (by decide) (by decide +kernel) (by omega),
      h.k (o := 54) (by omega) (by decide) (by decide +kernel)⟩⟩
  · exact ⟨h.f (o := 28) (y := 55) (by omega) (by decide) (by decide +kernel) (by omega),
      ⟨h.k (o := 55) (by omega) (by decide) (by decide +kernel),
      h.f (o := 55) (y := 56) (by omega) (by decide) (by decide +kernel) (by omega),
      h.k (o := 56) (by omega) (by decide) (by decide +kernel)⟩⟩
  · exact ⟨h.f (o := 28) (y := 57) (by omega) (by decide) (by decide +kernel) (by omega),
      ⟨h.k (o := 57) (by omega) (by decide) (by decide +kernel),
      h.f (o := 57) (y := 58) (by omega) (by decide) (by decide +kernel) (by omega),
      h.k (o := 58) (by omega) (by decide) (by decide +kernel)⟩⟩
  · exact ⟨h.f (o := 28) (y := 59) (by omega) (by decide) (by decide +kernel) (by omega),
      ⟨h.k (o := 59) (by omega) (by decide) (by decide +kernel),
      h.f (o := 59) (y := 60) (by omega) (by decide) (by decide +kernel) (by omega),
      h.k (o := 60) (by omega) (by decide) (by decide +kernel)⟩⟩
theorem TBL.skr {c : Nat} {Γ : xSh} (h : TBL c Γ) : SKr Γ (c + 4) := fun i hi => by
  have hi : i = 0 ∨ i = 1 ∨ i = 2 ∨ i = 3 ∨ i = 4 := by omega
  rcases hi with rfl | rfl | rfl | rfl | rfl
  · exact ⟨⟨h.f (o := 5) (y := 6) (by omega) (by decide) (by decide +kernel) (by omega), h.k (o := 6) (by omega) (by decide) (by decide +kernel)⟩,
      ⟨h.f (o := 11) (y := 12) (by omega) (by decide) (by decide +kernel) (by omega), h.k (o := 12) (by omega) (by decide) (by decide +kernel)⟩,
      ⟨h.f (o := 17) (y := 18) (by omega) (by decide) (by decide +kernel) (by omega), h.k (o := 18) (by omega) (by decide) (by decide +kernel)⟩⟩
  · exact ⟨⟨h.f (o := 5) (y := 7) (by omega) (by decide) (by decide +kernel) (by omega), h.k (o := 7) (by omega) (by decide) (by decide +kernel)⟩,
      ⟨h.f (o := 11) (y := 13) (by omega) (by decide) (by decide +kernel) (by omega), h.k (o := 13) (by omega) (by decide) (by decide +kernel)⟩,
      ⟨h.f (o := 17) (y := 19) (by omega) (by decide) (by decide +kernel) (by omega), h.k (o := 19) (by omega) (by decide) (by decide +kernel)⟩⟩
  · exact ⟨⟨h.f (o := 5) (y := 8) (by omega) (by decide) (by decide +kernel) (by omega), h.k (o := 8) (by omega) (by decide) (by decide +kernel)⟩,
      ⟨h.f (o := 11) (y := 14) (by omega) (by decide) (by decide +kernel) (by omega), h.k (o := 14) (by omega) (by decide) (by decide +kernel)⟩,
      ⟨h.f (o := 17) (y := 20) (by omega) (by decide) (by decide +kernel) (by omega), h.k (o := 20) (by omega) (by decide) (by decide +kernel)⟩⟩
  · exact ⟨⟨h.f (o := 5) (y := 9) (by omega) (by decide) (by decide +kernel) (by omega), h.k (o := 9) (by omega) (by decide) (by decide +kernel)⟩,
      ⟨h.f (o := 11) (y := 15) (by omega) (by decide) (by decide +kernel) (by omega), h.k (o := 15) (by omega) (by decide) (by decide +kernel)⟩,
      ⟨h.f (o := 17) (y := 21) (by omega) (by decide) (by decide +kernel) (by omega), h.k (o := 21) (by omega) (by decide) (by decide +kernel)⟩⟩
  · exact ⟨⟨h.f (o := 5) (y := 10) (by omega) (by decide) (by decide +kernel) (by omega), h.k (o := 10) (by omega) (by decide) (by decide +kernel)⟩,
      ⟨h.f (o := 11) (y := 16) (by omega) (by decide) (by decide +kernel) (by omega), h.k (o := 16) (by omega) (by decide) (by decide +kernel)⟩,
      ⟨h.f (o := 17) (y := 22) (by omega) (by decide) (by decide +kernel) (by omega), h.k (o := 22) (by omega) (by decide) (by decide +kernel)⟩⟩
theorem CS_of {c : Nat} {Γ : xSh} (h : TBL c Γ) : CS Γ c :=
  ⟨⟨h.k (o := 0) (by omega) (by decide) (by decide +kernel),
      h.f (o := 0) (y := 1) (by omega) (by decide) (by decide +kernel) (by omega),
      h.f (o := 0) (y := 2) (by omega) (by decide) (by decide +kernel) (by omega),
      h.f (o := 0) (y := 61) (by omega) (by decide) (by decide +kernel) (by omega),
      h.f (o := 0) (y := 69) (by omega) (by decide) (by decide +kernel) (by omega),
      h.f (o := 0) (y := 77) (by omega) (by decide) (by decide +kernel) (by omega),
      h.f (o := 0) (y := 4) (by omega) (by decide) (by decide +kernel) (by omega),
      h.f (o := 0) (y := 28) (by omega) (by decide) (by decide +kernel) (by omega)⟩,
    ⟨h.k (o := 1) (by omega) (by decide) (by decide +kernel), fun i hi => h.text hi⟩,
    ⟨h.k (o := 2) (by omega) (by decide) (by decide +kernel),
      h.f (o := 2) (y := 3) (by omega) (by decide) (by decide +kernel) (by omega),
      h.k (o := 3) (by omega) (by decide) (by decide +kernel)⟩,
    ⟨h.k (o := 4) (by omega) (by decide) (by decide +kernel),
      h.f (o := 4) (y := 5) (by omega) (by decide) (by decide +kernel) (by omega),
      h.f (o := 4) (y := 11) (by omega) (by decide) (by decide +kernel) (by omega),
      h.f (o := 4) (y := 17) (by omega) (by decide) (by decide +kernel) (by omega),
      h.f (o := 4) (y := 23) (by omega) (by decide) (by decide +kernel) (by omega),
      h.f (o := 4) (y := 24) (by omega) (by decide) (by decide +kernel) (by omega),
      h.f (o := 4) (y := 25) (by omega) (by decide) (by decide +kernel) (by omega),
      h.f (o := 4) (y := 26) (by omega) (by decide) (by decide +kernel) (by omega),
      h.f (o := 4) (y := 27) (by omega) (by decide) (by decide +kernel) (by omega),
      h.k (o := 23) (by omega) (by decide) (by decide +kernel),
      h.k (o := 24) (by omega) (by decide) (by decide +kernel),
      h.k (o := 25) (by omega) (by decide) (by decide +kernel),
      h.k (o := 26) (by omega) (by decide) (by decide +kernel),
      h.k (o := 27) (by omega) (by decide) (by decide +kernel),
      h.k (o := 5) (by omega) (by decide) (by decide +kernel),
      h.k (o := 11) (by omega) (by decide) (by decide +kernel),
      h.k (o := 17) (by omega) (by decide) (by decide +kernel)⟩,
    h.skr,
    ⟨h.k (o := 28) (by omega) (by decide) (by decide +kernel), fun i hi => h.sheet hi⟩,
    ⟨h.k (o := 61) (by omega) (by decide) (by decide +kernel),
      h.f (o := 61) (y := 1) (by omega) (by decide) (by decide +kernel) (by omega),
      h.f (o := 61) (y := 62) (by omega) (by decide) (by decide +kernel) (by omega),
      h.f (o := 61) (y := 63) (by omega) (by decide) (by decide +kernel) (by omega),
      h.f (o := 61) (y := 64) (by omega) (by decide) (by decide +kernel) (by omega),
      h.f (o := 61) (y := 65) (by omega) (by decide) (by decide +kernel) (by omega),
      h.f (o := 61) (y := 66) (by omega) (by decide) (by decide +kernel) (by omega),
      h.f (o := 61) (y := 67) (by omega) (by decide) (by decide +kernel) (by omega),
      h.f (o := 61) (y := 68) (by omega) (by decide) (by decide +kernel) (by omega),
      h.k (o := 62) (by omega) (by decide) (by decide +kernel),
      h.k (o := 63) (by omega) (by decide) (by decide +kernel),
      h.k (o := 64) (by omega) (by decide) (by decide +kernel),
      h.k (o := 65) (by omega) (by decide) (by decide +kernel),
      h.k (o := 66) (by omega) (by decide) (by decide +kernel),
      h.k (o := 67) (by omega) (by decide) (by decide +kernel),
      h.k (o := 68) (by omega) (by decide) (by decide +kernel)⟩,
    ⟨h.k (o := 69) (by omega) (by decide) (by decide +kernel),
      h.f (o := 69) (y := 1) (by omega) (by decide) (by decide +kernel) (by omega),
      h.f (o := 69) (y := 70) (by omega) (by decide) (by decide +kernel) (by omega),
      h.f (o := 69) (y := 71) (by omega) (by decide) (by decide +kernel) (by omega),
      h.f (o := 69) (y := 72) (by omega) (by decide) (by decide +kernel) (by omega),
      h.f (o := 69) (y := 73) (by omega) (by decide) (by decide +kernel) (by omega),
      h.f (o := 69) (y := 74) (by omega) (by decide) (by decide +kernel) (by omega),
      h.f (o := 69) (y := 75) (by omega) (by decide) (by decide +kernel) (by omega),
      h.f (o := 69) (y := 76) (by omega) (by decide) (by decide +kernel) (by omega),
      h.k (o := 70) (by omega) (by decide) (by decide +kernel),
      h.k (o := 71) (by omega) (by decide) (by decide +kernel),
      h.k (o := 72) (by omega) (by decide) (by decide +kernel),
      h.k (o := 73) (by omega) (by decide) (by decide +kernel),
      h.k (o := 74) (by omega) (by decide) (by decide +kernel),
      h.k (o := 75) (by omega) (by decide) (by decide +kernel),
      h.k (o := 76) (by omega) (by decide) (by decide +kernel)⟩,
    ⟨h.k (o := 77) (by omega) (by decide) (by decide +kernel),
      h.f (o := 77) (y := 1) (by omega) (by decide) (by decide +kernel) (by omega),
      h.f (o := 77) (y := 78) (by omega) (by decide) (by decide +kernel) (by omega),
      h.f (o := 77) (y := 79) (by omega) (by decide) (by decide +kernel) (by omega),
      h.f (o := 77) (y := 80) (by omega) (by decide) (by decide +kernel) (by omega),
      h.f (o := 77) (y := 81) (by omega) (by decide) (by decide +kernel) (by omega),
      h.f (o := 77) (y := 82) (by omega) (by decide) (by decide +kernel) (by omega),
      h.f (o := 77) (y := 83) (by omega) (by decide) (by decide +kernel) (by omega),
      h.f (o := 77) (y := 84) (by omega) (by decide) (by decide +kernel) (by omega),
      h.k (o := 78) (by omega) (by decide) (by decide +kernel),
      h.k (o := 79) (by omega) (by decide) (by decide +kernel),
      h.k (o := 80) (by omega) (by decide) (by decide +kernel),
      h.k (o := 81) (by omega) (by decide) (by decide +kernel),
      h.k (o := 82) (by omega) (by decide) (by decide +kernel),
      h.k (o := 83) (by omega) (by decide) (by decide +kernel),
      h.k (o := 84) (by omega) (by decide) (by decide +kernel)⟩⟩
