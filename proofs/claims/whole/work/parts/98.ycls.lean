/-! ===== the class is made ===== -/
theorem xR_bud {M : xMt} {d pc : Nat} {b b' : Nat × Nat} {ls st : List xV} {μ : xMem} {Q : xV → xMem → Prop} (h : xR M d b pc ls st μ Q) (h1 : b.1 ≤ b'.1) (h2 : b.2 ≤ b'.2) : xR M d b' pc ls st μ Q :=
  fun p l e s m args below meth c Rm w g0 n0 g H locs cells slots lsM hC a1 a2 a3 a4 => h p l e s m args below meth c Rm w g0 n0 g H locs cells slots lsM hC a1 a2 (by omega) (by omega)
theorem cZ_1 {o : Nat} (h : o = 53 ∨ o = 55 ∨ o = 57 ∨ o = 59) : cZ o = fun j => if j = 0 then -1 else 0 := funext fun j => by
  unfold cZ
  rw [if_neg (by omega)]
  by_cases e : j = 0
  · rw [if_pos ⟨h, e⟩, if_pos e]
  · rw [if_neg (fun z => e z.2), if_neg e]
theorem cZ_2 {o : Nat} (h : o = 61 ∨ o = 69 ∨ o = 77) : cZ o = fun j => if j = 1 then 1 else 0 := funext fun j => by
  unfold cZ
  by_cases e : j = 1
  · rw [if_pos ⟨h, e⟩, if_pos e]
  · rw [if_neg (fun z => e z.2), if_neg e, if_neg (by omega)]
def tOK2b (t tk : Nat) (KL : List (Nat × oKd)) : Bool := (List.range tk).all fun i => kIn (i, cK (t + i)) KL
def tOK3b (t tk : Nat) (FL : List (Nat × Nat × Nat)) : Bool := (List.range tk).all fun i => (cF (t + i)).all fun p => (decide (t + tk ≤ p.2) || (decide (t ≤ p.2) && FL.any (fun q => decide (q = (i, p.1, p.2 - t))))) || (decide (i = 0) && decide (p = (0, 1)))
def tOK4b (t tk oq f : Nat) : Bool := (List.range t).all fun o => (cF o).all fun p => ((decide (t ≤ p.2) || !decide (o = oq)) || !decide (p.1 = f)) && ((decide (p.2 < t) || decide (t + tk ≤ p.2)) || (decide (o = oq) && decide (p = (f, t))))
theorem tOK_of {t tk oq f : Nat} {KL : List (Nat × oKd)} {FL : List (Nat × Nat × Nat)} (h0 : 0 < t ∧ oq < t) (hb : (tOK2b t tk KL && tOK3b t tk FL && tOK4b t tk oq f) = true) : tOK t tk oq f KL FL := by
  rw [Bool.and_eq_true, Bool.and_eq_true] at hb
  obtain ⟨⟨h2, h3⟩, h4⟩ := hb
  refine ⟨h0, fun i hi => List.all_eq_true.mp h2 i (List.mem_range.mpr hi), fun i hi p hp hlt => ?_, fun o ho p hp => ?_⟩
  · have h := List.all_eq_true.mp (List.all_eq_true.mp h3 i (List.mem_range.mpr hi)) p hp
    simp only [Bool.or_eq_true, Bool.and_eq_true, decide_eq_true_eq, List.any_eq_true] at h
    rcases h with (a | ⟨a, q, hq, e⟩) | a
    · omega
    · exact Or.inl ⟨a, by rw [← e]; exact hq⟩
    · exact Or.inr a
  · have h := List.all_eq_true.mp (List.all_eq_true.mp h4 o (List.mem_range.mpr ho)) p hp
    simp only [Bool.or_eq_true, Bool.and_eq_true, Bool.not_eq_true', decide_eq_true_eq, decide_eq_false_iff_not] at h
    obtain ⟨a, b⟩ := h
    refine ⟨fun x y z => ?_, fun x y => ?_⟩
    · rcases a with (a | a) | a
      · omega
      · exact a y
      · exact a z
    · rcases b with (b | b) | b
      · omega
      · omega
      · exact b
theorem tOK_textb : ∀ i : Fin 6, (tOK2b (29 + 4 * i.val) 4 KL3 && tOK3b (29 + 4 * i.val) 4 FL3 && tOK4b (29 + 4 * i.val) 4 1 i.val) = true := by decide +kernel
theorem tOK_text (i : Fin 6) : tOK (29 + 4 * i.val) 4 1 i.val KL3 FL3 := tOK_of ⟨by omega, by omega⟩ (tOK_textb i)
theorem tOK_sheetb : ∀ i : Fin 4, (tOK2b (53 + 2 * i.val) 2 KL1 && tOK3b (53 + 2 * i.val) 2 FL1 && tOK4b (53 + 2 * i.val) 2 28 i.val) = true := by decide +kernel
theorem tOK_sheet (i : Fin 4) : tOK (53 + 2 * i.val) 2 28 i.val KL1 FL1 := tOK_of ⟨by omega, by omega⟩ (tOK_sheetb i)
theorem tOK_w3 : tOK 61 8 0 3 KL4 FL4 := tOK_of (by decide) (by decide +kernel)
theorem tOK_w4 : tOK 69 8 0 4 KL4 FL4 := tOK_of (by decide) (by decide +kernel)
theorem tOK_w5 : tOK 77 8 0 5 KL4 FL4 := tOK_of (by decide) (by decide +kernel)
theorem tOK_tape : tOK 2 2 0 2 KL2 FL2 := tOK_of (by decide) (by decide +kernel)
theorem tOK_keeper : tOK 4 24 0 7 KL0 FL0 := tOK_of (by decide) (by decide +kernel)
theorem tOK_texts : tOK 1 1 0 0 [(0, .inr (.object "CrystalByTheMinute$Text", 6))] [] := tOK_of (by decide) (by decide +kernel)
theorem tOK_sheets : tOK 28 1 0 8 [(0, .inr (.object "CrystalByTheMinute$Sheet", 4))] [] := tOK_of (by decide) (by decide +kernel)
theorem push_PO {μ : xMem} {n : Nat} {kd : oKd} (hN : gN μ.1 = n) : PO (gPush μ.1 kd, zer2 μ.2 (gN μ.1)) n 1 (fun _ => 0) [(0, kd)] [] (gPush μ.1 kd, zer2 μ.2 (gN μ.1)) := by
  have e : (zer2 μ.2 (gN μ.1)) n = fun _ => 0 := by
    funext j
    show (if n = gN μ.1 then 0 else μ.2 n j) = 0
    rw [if_pos hN.symm]
  have h := PO.rf (μ := (gPush μ.1 kd, zer2 μ.2 (gN μ.1))) (n := n) (kd := kd) (by show gN μ.1 + 1 = n + 1; rw [hN]) (by show (if n = gN μ.1 then some kd else gK μ.1 n) = some kd; rw [if_pos hN.symm])
  rw [show (gPush μ.1 kd, zer2 μ.2 (gN μ.1)).2 n = fun _ => 0 from e] at h
  exact h
theorem push_ne {Γ : xSh} {kd : oKd} {k : Nat} (h : k ≠ gN Γ) : gK (gPush Γ kd) k = gK Γ k := if_neg h
theorem push_neF {Γ : xSh} {kd : oKd} {k j : Nat} (h : k ≠ gN Γ) : gF (gPush Γ kd) k j = gF Γ k j := if_neg h
section Cls
variable {μ0 μ : xMem} {c t f d : Nat} {K : xP} {b : Nat × Nat} {rest : List xV}
theorem PC.k0 (h : PC μ0 c t μ) (ht : 0 < t) : gK μ.1 c = some (.inl 5) := (h.2.2 0 ht).1
theorem PC.f0 {j x : Nat} (h : PC μ0 c t μ) (ht : 0 < t) (hm : (j, x) ∈ cF 0) (hx : x < t) : gF μ.1 c j = some (c + x) := (h.2.2 0 ht).2.1 (j, x) hm hx
theorem ck {z : Int} {ty : FieldType} (h : PC μ0 c t μ) (hz : (0 ≤ z ∧ z < 100000) ∧ 1 ≤ b.1 ∧ z.toNat ≤ b.2) (hT : tOK t 1 0 f [(0, .inr (ty, z.toNat))] []) (hr : cZ t = fun _ => 0) (hw : ¬ (0, 1) ∈ cF t) (hk : ∀ μ', PC μ0 c (t + 1) μ' → K (b.1 - 1, b.2 - z.toNat) (vr c :: rest) [] μ') :
    (x_aload 0 <| x_push (vi z) <| x_newa ty <| x_putR 5 f <| K) b (vr c :: rest) [] μ := by
  have hN := h.1
  have t0 := hT.1.1
  have hP := push_PO (kd := .inr (ty, z.toNat)) hN
  have key := h.sub hP hT hr.symm (fun i a b => by omega) (fun q => absurd q hw)
  show (0 ≤ z ∧ z < 100000) ∧ (1 ≤ b.1 ∧ z.toNat ≤ b.2) ∧ gK (gPush μ.1 (.inr (ty, z.toNat))) c = some (.inl 5) ∧ K (b.1 - 1, b.2 - z.toNat) (vr c :: rest) [] (gSetF (gPush μ.1 (.inr (ty, z.toNat))) c f (some (gN μ.1)), zer2 μ.2 (gN μ.1))
  refine ⟨hz.1, hz.2, ?_, ?_⟩
  · rw [push_ne (by omega)]
    exact h.k0 t0
  · rw [hN] at key ⊢
    exact hk _ key
theorem cn {M' : xMt} {kk tk : Nat} {r : Nat → Int} {KL : List (Nat × oKd)} {FL : List (Nat × Nat × Nat)} {bc : Nat × Nat} (h : PC μ0 c t μ) (hb : (1 ≤ b.1 ∧ xNf kk ≤ b.2) ∧ bc.1 ≤ b.1 - 1 ∧ bc.2 ≤ b.2 - xNf kk)
    (hM : ∀ (μ1 : xMem) (Q' : xV → xMem → Prop), gN μ1.1 = c + t + 1 → gK μ1.1 (c + t) = some (.inl kk) → μ1.2 (c + t) = (fun _ => 0) → (∀ μ2, PO μ1 (c + t) tk r KL FL μ2 → Q' vu μ2) → xRM M' d bc [vr (c + t)] μ1 Q')
    (hT : tOK t tk 0 f KL FL) (hr : r = cZ t) (hz : ∀ i, 1 ≤ i → i < tk → cZ (t + i) = fun _ => 0) (hw : ¬ (0, 1) ∈ cF t)
    (hk : ∀ μ', PC μ0 c (t + tk) μ' → K (b.1 - 1 - bc.1, b.2 - xNf kk - bc.2) (vr c :: rest) [] μ') : (x_aload 0 <| x_new kk <| x_dup <| x_cI0 M' d bc <| x_putR 5 f <| K) b (vr c :: rest) [] μ := by
  have hN := h.1
  have t0 := hT.1.1
  have hP := push_PO (kd := .inl kk) hN
  refine ⟨hb.1, trivial, (by show 2 ≤ 4; decide), hb.2, ?_⟩
  show xRM M' d bc [vr (gN μ.1)] (gPush μ.1 (.inl kk), zer2 μ.2 (gN μ.1)) (xK (x_putR 5 f K) (b.1 - 1 - bc.1, b.2 - xNf kk - bc.2) (vr c :: rest) [vr (gN μ.1), vr c])
  rw [show [vr (gN μ.1)] = [vr (c + t)] by rw [hN], show [vr (gN μ.1), vr c] = [vr (c + t), vr c] by rw [hN]]
  refine hM _ _ hP.1 (hP.k (o := 0) (kd := .inl kk) List.mem_cons_self) hP.2.2.2.2.2.1 (fun μ2 p2 => ?_)
  show gK μ2.1 c = some (.inl 5) ∧ K (b.1 - 1 - bc.1, b.2 - xNf kk - bc.2) (vr c :: rest) [] (gSetF μ2.1 c f (some (c + t)), μ2.2)
  refine ⟨?_, hk _ (h.sub p2 hT hr hz (fun q => absurd q hw))⟩
  rw [(p2.2.2.1.2 c (by omega)).1]
  show gK (gPush μ.1 (.inl kk)) c = _
  rw [push_ne (by omega)]
  exact h.k0 t0
theorem cw (h : PC μ0 c t μ) (hb : (1 ≤ b.1 ∧ 12 ≤ b.2) ∧ 7 ≤ b.1 - 1 ∧ 40 ≤ b.2 - 12) (hT : tOK t 8 0 f KL4 FL4) (ht : t = 61 ∨ t = 69 ∨ t = 77)
    (hk : ∀ μ', PC μ0 c (t + 8) μ' → K (b.1 - 1 - 7, b.2 - 12 - 40) (vr c :: rest) [] μ') : (x_aload 0 <| x_new 4 <| x_dup <| x_aload 0 <| x_getR 5 0 <| x_cI1 M_X4_init (d + 1) BUD_X4_init <| x_putR 5 f <| K) b (vr c :: rest) [] μ := by
  have hN := h.1
  have t0 := hT.1.1
  have hP := push_PO (kd := .inl 4) hN
  have h5 : gK (gPush μ.1 (.inl 4)) c = some (.inl 5) := by
    rw [push_ne (by omega)]
    exact h.k0 t0
  refine ⟨hb.1, trivial, h5, (by show 2 ≤ 4; decide), hb.2, ?_⟩
  show xRM M_X4_init (d + 1) BUD_X4_init [vr (gN μ.1), vq (gF (gPush μ.1 (.inl 4)) c 0)] (gPush μ.1 (.inl 4), zer2 μ.2 (gN μ.1)) (xK (x_putR 5 f K) (b.1 - 1 - 7, b.2 - 12 - 40) (vr c :: rest) [vr (gN μ.1), vr c])
  rw [show [vr (gN μ.1), vq (gF (gPush μ.1 (.inl 4)) c 0)] = [vr (c + t), vr (c + 1)] by rw [hN, push_neF (by omega), h.f0 (x := 1) t0 (by decide +kernel) (by omega)], show [vr (gN μ.1), vr c] = [vr (c + t), vr c] by rw [hN]]
  refine i_world hP.1 (hP.k (o := 0) (kd := .inl 4) List.mem_cons_self) (fun μ2 p2 g2 => ?_)
  rw [hP.2.2.2.2.2.1] at p2
  show gK μ2.1 c = some (.inl 5) ∧ K (b.1 - 1 - 7, b.2 - 12 - 40) (vr c :: rest) [] (gSetF μ2.1 c f (some (c + t)), μ2.2)
  refine ⟨?_, hk _ (h.sub p2 hT (cZ_2 ht).symm (fun i a b => cZ_0 (by omega) (by omega)) (fun _ => g2))⟩
  rw [(p2.2.2.1.2 c (by omega)).1]
  exact h5
end Cls
