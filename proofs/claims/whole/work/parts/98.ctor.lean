/-! ===== constructors: an object and the rows that it lays ===== -/
abbrev oKd : Type := Nat ⊕ (FieldType × Nat)
def kIn (q : Nat × oKd) (L : List (Nat × oKd)) : Bool := L.any fun x => decide (x = q)
theorem kIn_mem {q : Nat × oKd} {L : List (Nat × oKd)} (h : kIn q L = true) : q ∈ L := by
  obtain ⟨x, hx, e⟩ := List.any_eq_true.mp h
  rw [← of_decide_eq_true e]
  exact hx
/-- the object at n: t cells, their kinds (by place), references between them (place, field, place), its own fields; below n all is as in μ0 -/
def PO (μ0 : xMem) (n t : Nat) (r : Nat → Int) (KL : List (Nat × oKd)) (FL : List (Nat × Nat × Nat)) (μ : xMem) : Prop :=
  gN μ.1 = n + t ∧ 1 ≤ t ∧ Gx n μ0 μ ∧ (∀ q ∈ KL, gK μ.1 (n + q.1) = some q.2 ∧ q.1 < t) ∧ (∀ q ∈ FL, gF μ.1 (n + q.1) q.2.1 = some (n + q.2.2) ∧ q.1 < t) ∧ μ.2 n = r ∧ ∀ k, 1 ≤ k → k < t → μ.2 (n + k) = fun _ => 0
section Obj
variable {μ0 μ : xMem} {n t f : Nat} {r : Nat → Int} {KL : List (Nat × oKd)} {FL : List (Nat × Nat × Nat)} {K : xP} {b : Nat × Nat} {rest : List xV}
theorem PO.rf {kd : oKd} (hn : gN μ.1 = n + 1) (hk : gK μ.1 n = some kd) : PO μ n 1 (μ.2 n) [(0, kd)] [] μ :=
  ⟨hn, Nat.le_refl _, Gx.rf, (fun q hq => by obtain rfl := List.mem_singleton.mp hq; exact ⟨hk, Nat.zero_lt_one⟩), (fun q hq => by cases hq), rfl, fun k a b => by omega⟩
theorem PO.row {ty : FieldType} {len : Nat} (h : PO μ0 n t r KL FL μ) (hf : ∀ q ∈ FL, q.1 = 0 → q.2.1 ≠ f) : PO μ0 n (t + 1) r (KL ++ [(t, .inr (ty, len))]) (FL ++ [(0, f, t)]) (gSetF (gPush μ.1 (.inr (ty, len))) n f (some (gN μ.1)), zer2 μ.2 (gN μ.1)) := by
  obtain ⟨h1, h2, h3, h4, h5, h6, h7⟩ := h
  refine ⟨by show gN μ.1 + 1 = n + (t + 1); omega, by omega, (h3.push (by omega)).setF (Nat.le_refl _), fun q hq => ?_, fun q hq => ?_, ?_, fun k a b => ?_⟩
  · rcases List.mem_append.mp hq with hq | hq
    · obtain ⟨a1, a2⟩ := h4 q hq
      refine ⟨?_, by omega⟩
      show (if n + q.1 = gN μ.1 then some (Sum.inr (ty, len)) else gK μ.1 (n + q.1)) = some q.2
      rw [if_neg (by omega)]
      exact a1
    · obtain rfl := List.mem_singleton.mp hq
      refine ⟨?_, Nat.lt_succ_self _⟩
      show (if n + t = gN μ.1 then some (Sum.inr (ty, len)) else gK μ.1 (n + t)) = some (Sum.inr (ty, len))
      rw [if_pos h1.symm]
  · rcases List.mem_append.mp hq with hq | hq
    · obtain ⟨a1, a2⟩ := h5 q hq
      refine ⟨?_, by omega⟩
      show (if n + q.1 = n ∧ q.2.1 = f then some (gN μ.1) else (if n + q.1 = gN μ.1 then none else gF μ.1 (n + q.1) q.2.1)) = some (n + q.2.2)
      rw [if_neg (fun z => hf q hq (by omega) z.2), if_neg (by omega)]
      exact a1
    · obtain rfl := List.mem_singleton.mp hq
      refine ⟨?_, Nat.zero_lt_succ _⟩
      show (if n + 0 = n ∧ f = f then some (gN μ.1) else (if n + 0 = gN μ.1 then none else gF μ.1 (n + 0) f)) = some (n + t)
      rw [if_pos ⟨rfl, rfl⟩, h1]
  · funext j
    show (if n = gN μ.1 then 0 else μ.2 n j) = r j
    rw [if_neg (by omega), h6]
  · funext j
    show (if n + k = gN μ.1 then 0 else μ.2 (n + k) j) = 0
    by_cases e : n + k = gN μ.1
    · rw [if_pos e]
    · rw [if_neg e, h7 k a (by omega)]
theorem PO.mna {x y : Nat} (h : PO μ0 n t r KL FL μ) (hf : ∀ q ∈ FL, q.1 = 0 → q.2.1 ≠ f) : PO μ0 n (t + 1 + x) r (KL ++ ((t, .inr (.array .int, x)) :: (List.range x).map fun j => (t + 1 + j, .inr (.int, y)))) (FL ++ ((0, f, t) :: (List.range x).map fun j => (t, j, t + 1 + j))) (gSetF (gMna μ.1 x y) n f (some (gN μ.1)), zerM μ.2 (gN μ.1) x) := by
  obtain ⟨h1, h2, h3, h4, h5, h6, h7⟩ := h
  refine ⟨by show gN μ.1 + 1 + x = n + (t + 1 + x); omega, by omega, (h3.mna (by omega)).setF (Nat.le_refl _), fun q hq => ?_, fun q hq => ?_, ?_, fun k a b => ?_⟩
  · rcases List.mem_append.mp hq with hq | hq
    · obtain ⟨a1, a2⟩ := h4 q hq
      refine ⟨?_, by omega⟩
      show (if n + q.1 = gN μ.1 then some (Sum.inr (FieldType.array .int, x)) else if gN μ.1 < n + q.1 ∧ n + q.1 ≤ gN μ.1 + x then some (Sum.inr (FieldType.int, y)) else gK μ.1 (n + q.1)) = some q.2
      rw [if_neg (by omega), if_neg (by omega)]
      exact a1
    · rcases List.mem_cons.mp hq with rfl | hq
      · refine ⟨?_, by show t < t + 1 + x; omega⟩
        show (if n + t = gN μ.1 then some (Sum.inr (FieldType.array .int, x)) else if gN μ.1 < n + t ∧ n + t ≤ gN μ.1 + x then some (Sum.inr (FieldType.int, y)) else gK μ.1 (n + t)) = some (Sum.inr (FieldType.array .int, x))
        rw [if_pos h1.symm]
      · obtain ⟨j, hj, rfl⟩ := List.mem_map.mp hq
        have hj := List.mem_range.mp hj
        refine ⟨?_, by show t + 1 + j < t + 1 + x; omega⟩
        show (if n + (t + 1 + j) = gN μ.1 then some (Sum.inr (FieldType.array .int, x)) else if gN μ.1 < n + (t + 1 + j) ∧ n + (t + 1 + j) ≤ gN μ.1 + x then some (Sum.inr (FieldType.int, y)) else gK μ.1 (n + (t + 1 + j))) = some (Sum.inr (FieldType.int, y))
        rw [if_neg (by omega), if_pos (by omega)]
  · rcases List.mem_append.mp hq with hq | hq
    · obtain ⟨a1, a2⟩ := h5 q hq
      refine ⟨?_, by omega⟩
      show (if n + q.1 = n ∧ q.2.1 = f then some (gN μ.1) else (if n + q.1 = gN μ.1 then (if q.2.1 < x then some (gN μ.1 + 1 + q.2.1) else none) else if gN μ.1 < n + q.1 ∧ n + q.1 ≤ gN μ.1 + x then none else gF μ.1 (n + q.1) q.2.1)) = some (n + q.2.2)
      rw [if_neg (fun z => hf q hq (by omega) z.2), if_neg (by omega), if_neg (by omega)]
      exact a1
    · rcases List.mem_cons.mp hq with rfl | hq
      · refine ⟨?_, by show 0 < t + 1 + x; omega⟩
        show (if n + 0 = n ∧ f = f then some (gN μ.1) else gF (gMna μ.1 x y) (n + 0) f) = some (n + t)
        rw [if_pos ⟨rfl, rfl⟩, h1]
      · obtain ⟨j, hj, rfl⟩ := List.mem_map.mp hq
        have hj := List.mem_range.mp hj
        refine ⟨?_, by show t < t + 1 + x; omega⟩
        show (if n + t = n ∧ j = f then some (gN μ.1) else (if n + t = gN μ.1 then (if j < x then some (gN μ.1 + 1 + j) else none) else if gN μ.1 < n + t ∧ n + t ≤ gN μ.1 + x then none else gF μ.1 (n + t) j)) = some (n + (t + 1 + j))
        rw [if_neg (by omega), if_pos h1.symm, if_pos hj]
        congr 1
        omega
  · funext j
    show (if gN μ.1 ≤ n ∧ n ≤ gN μ.1 + x then 0 else μ.2 n j) = r j
    rw [if_neg (by omega), h6]
  · funext j
    show (if gN μ.1 ≤ n + k ∧ n + k ≤ gN μ.1 + x then 0 else μ.2 (n + k) j) = 0
    by_cases e : gN μ.1 ≤ n + k ∧ n + k ≤ gN μ.1 + x
    · rw [if_pos e]
    · rw [if_neg e, h7 k a (by omega)]
theorem PO.int {v : Int} (h : PO μ0 n t r KL FL μ) : PO μ0 n t (fun j => if j = f then v else r j) KL FL (μ.1, upd2 μ.2 n f v) := by
  obtain ⟨h1, h2, h3, h4, h5, h6, h7⟩ := h
  refine ⟨h1, h2, h3.put (Nat.le_refl _), h4, h5, ?_, fun k a b => ?_⟩
  · funext j
    show (if n = n ∧ j = f then v else μ.2 n j) = if j = f then v else r j
    by_cases e : j = f
    · rw [if_pos ⟨rfl, e⟩, if_pos e]
    · rw [if_neg (fun z => e z.2), if_neg e, h6]
  · show upd2 μ.2 n f v (n + k) = _
    rw [upd2_row (by omega)]
    exact h7 k a b
theorem PO.ref {x : Option Nat} (h : PO μ0 n t r KL FL μ) (hf : ∀ q ∈ FL, q.1 = 0 → q.2.1 ≠ f) : PO μ0 n t r KL FL (gSetF μ.1 n f x, μ.2) := by
  obtain ⟨h1, h2, h3, h4, h5, h6, h7⟩ := h
  refine ⟨h1, h2, h3.setF (Nat.le_refl _), h4, fun q hq => ?_, h6, h7⟩
  obtain ⟨a1, a2⟩ := h5 q hq
  refine ⟨?_, a2⟩
  show (if n + q.1 = n ∧ q.2.1 = f then x else gF μ.1 (n + q.1) q.2.1) = some (n + q.2.2)
  rw [if_neg (fun z => hf q hq (by omega) z.2)]
  exact a1
theorem PO.k {o : Nat} {kd : oKd} (h : PO μ0 n t r KL FL μ) (hm : (o, kd) ∈ KL) : gK μ.1 (n + o) = some kd := (h.2.2.2.1 _ hm).1
theorem PO.fe {o j x : Nat} (h : PO μ0 n t r KL FL μ) (hm : (o, j, x) ∈ FL) : gF μ.1 (n + o) j = some (n + x) := (h.2.2.2.2.1 _ hm).1
/-! blocks of code -/
theorem bo (h : K b (vr n :: rest) [] μ) : (x_aload 0 <| x_objinit <| K) b (vr n :: rest) [] μ := ⟨Nat.zero_le _, h⟩
theorem bi {ci : Nat} {v : Int} (hP : PO μ0 n t r KL FL μ) (hc : (0, .inl ci) ∈ KL) (hk : ∀ μ', PO μ0 n t (fun j => if j = f then v else r j) KL FL μ' → K b (vr n :: rest) [] μ') : (x_aload 0 <| x_push (vi v) <| x_putI ci f <| K) b (vr n :: rest) [] μ := by
  show gK μ.1 n = some (.inl ci) ∧ K b (vr n :: rest) [] (μ.1, upd2 μ.2 n f v)
  exact ⟨hP.k hc, hk _ hP.int⟩
theorem bk {ci : Nat} {z : Int} {ty : FieldType} (hP : PO μ0 n t r KL FL μ) (hc : (0, .inl ci) ∈ KL) (hf : ∀ q ∈ FL, q.1 = 0 → q.2.1 ≠ f) (hz : (0 ≤ z ∧ z < 100000) ∧ 1 ≤ b.1 ∧ z.toNat ≤ b.2) (hk : ∀ μ', PO μ0 n (t + 1) r (KL ++ [(t, .inr (ty, z.toNat))]) (FL ++ [(0, f, t)]) μ' → K (b.1 - 1, b.2 - z.toNat) (vr n :: rest) [] μ') : (x_aload 0 <| x_push (vi z) <| x_newa ty <| x_putR ci f <| K) b (vr n :: rest) [] μ := by
  show (0 ≤ z ∧ z < 100000) ∧ (1 ≤ b.1 ∧ z.toNat ≤ b.2) ∧ gK (gPush μ.1 (.inr (ty, z.toNat))) n = some (.inl ci) ∧ K (b.1 - 1, b.2 - z.toNat) (vr n :: rest) [] (gSetF (gPush μ.1 (.inr (ty, z.toNat))) n f (some (gN μ.1)), zer2 μ.2 (gN μ.1))
  refine ⟨hz.1, hz.2, ?_, hk _ (hP.row hf)⟩
  have hN := hP.1
  have ht := hP.2.1
  show (if n = gN μ.1 then some (Sum.inr (ty, z.toNat)) else gK μ.1 n) = some (Sum.inl ci)
  rw [if_neg (by omega)]
  exact hP.k hc
theorem bm {ci : Nat} {x y : Int} (hP : PO μ0 n t r KL FL μ) (hc : (0, .inl ci) ∈ KL) (hf : ∀ q ∈ FL, q.1 = 0 → q.2.1 ≠ f) (hz : (0 ≤ x ∧ x < 1000) ∧ (0 ≤ y ∧ y < 1000) ∧ 1 + x.toNat ≤ b.1 ∧ x.toNat + x.toNat * y.toNat ≤ b.2)
    (hk : ∀ μ', PO μ0 n (t + 1 + x.toNat) r (KL ++ ((t, .inr (.array .int, x.toNat)) :: (List.range x.toNat).map fun j => (t + 1 + j, .inr (.int, y.toNat)))) (FL ++ ((0, f, t) :: (List.range x.toNat).map fun j => (t, j, t + 1 + j))) μ' → K (b.1 - (1 + x.toNat), b.2 - (x.toNat + x.toNat * y.toNat)) (vr n :: rest) [] μ') : (x_aload 0 <| x_push (vi x) <| x_push (vi y) <| x_mna <| x_putR ci f <| K) b (vr n :: rest) [] μ := by
  show (0 ≤ x ∧ x < 1000) ∧ (0 ≤ y ∧ y < 1000) ∧ (1 + x.toNat ≤ b.1 ∧ x.toNat + x.toNat * y.toNat ≤ b.2) ∧ gK (gMna μ.1 x.toNat y.toNat) n = some (.inl ci) ∧ K (b.1 - (1 + x.toNat), b.2 - (x.toNat + x.toNat * y.toNat)) (vr n :: rest) [] (gSetF (gMna μ.1 x.toNat y.toNat) n f (some (gN μ.1)), zerM μ.2 (gN μ.1) x.toNat)
  refine ⟨hz.1, hz.2.1, hz.2.2, ?_, hk _ (hP.mna hf)⟩
  have hN := hP.1
  have ht := hP.2.1
  show (if n = gN μ.1 then some (Sum.inr (FieldType.array .int, x.toNat)) else if gN μ.1 < n ∧ n ≤ gN μ.1 + x.toNat then some (Sum.inr (FieldType.int, y.toNat)) else gK μ.1 n) = some (Sum.inl ci)
  rw [if_neg (by omega), if_neg (by omega)]
  exact hP.k hc
end Obj
abbrev KL3 : List (Nat × oKd) := [(0, .inl 3), (1, .inr (.int, 160)), (2, .inr (.int, 3)), (3, .inr (.int, 32))]
abbrev FL3 : List (Nat × Nat × Nat) := [(0, 0, 1), (0, 1, 2), (0, 2, 3)]
abbrev KL1 : List (Nat × oKd) := [(0, .inl 1), (1, .inr (.int, 40))]
abbrev FL1 : List (Nat × Nat × Nat) := [(0, 2, 1)]
abbrev KL2 : List (Nat × oKd) := [(0, .inl 2), (1, .inr (.int, 160))]
abbrev FL2 : List (Nat × Nat × Nat) := [(0, 0, 1)]
abbrev KL4 : List (Nat × oKd) := [(0, .inl 4), (1, .inr (.int, 6)), (2, .inr (.int, 6)), (3, .inr (.int, 6)), (4, .inr (.int, 6)), (5, .inr (.int, 5)), (6, .inr (.int, 5)), (7, .inr (.int, 6))]
abbrev FL4 : List (Nat × Nat × Nat) := [(0, 5, 1), (0, 6, 2), (0, 7, 3), (0, 8, 4), (0, 9, 5), (0, 10, 6), (0, 11, 7)]
abbrev KL0 : List (Nat × oKd) := [(0, .inl 0)] ++ ((1, .inr (.array .int, 5)) :: (List.range 5).map fun j => (1 + 1 + j, .inr (.int, 6))) ++ ((7, .inr (.array .int, 5)) :: (List.range 5).map fun j => (7 + 1 + j, .inr (.int, 6))) ++ ((13, .inr (.array .int, 5)) :: (List.range 5).map fun j => (13 + 1 + j, .inr (.int, 6))) ++ [(19, .inr (.int, 6))] ++ [(20, .inr (.int, 6))] ++ [(21, .inr (.int, 5))] ++ [(22, .inr (.int, 5))] ++ [(23, .inr (.int, 6))]
abbrev FL0 : List (Nat × Nat × Nat) := [] ++ ((0, 0, 1) :: (List.range 5).map fun j => (1, j, 1 + 1 + j)) ++ ((0, 1, 7) :: (List.range 5).map fun j => (7, j, 7 + 1 + j)) ++ ((0, 2, 13) :: (List.range 5).map fun j => (13, j, 13 + 1 + j)) ++ [(0, 3, 19)] ++ [(0, 4, 20)] ++ [(0, 5, 21)] ++ [(0, 6, 22)] ++ [(0, 7, 23)]
section Ctor
variable {μ : xMem} {n d : Nat} {Q : xV → xMem → Prop}
theorem i_text (hn : gN μ.1 = n + 1) (hk : gK μ.1 n = some (.inl 3)) (hQ : ∀ μ', PO μ n 4 (μ.2 n) KL3 FL3 μ' → Q vu μ') : xRM M_X3_init (d + 1) BUD_X3_init [vr n] μ Q := by
  refine xRM_of (by decide) (Nat.le_of_ble_eq_true rfl) ?_
  refine b_X3_init_0 _ _ _ _ ?_
  show k_X3_init_0 d Q (3, 195) [vr n] [] μ
  unfold k_X3_init_0
  refine bo ?_
  refine bk (PO.rf hn hk) (kIn_mem (by decide +kernel)) (by decide +kernel) (by decide) (fun μ1 h1 => ?_)
  refine bk h1 (kIn_mem (by decide +kernel)) (by decide +kernel) (by decide) (fun μ2 h2 => ?_)
  refine bk h2 (kIn_mem (by decide +kernel)) (by decide +kernel) (by decide) (fun μ3 h3 => ?_)
  exact hQ μ3 h3
theorem i_sheet (hn : gN μ.1 = n + 1) (hk : gK μ.1 n = some (.inl 1)) (hQ : ∀ μ', PO μ n 2 (fun j => if j = 0 then -1 else μ.2 n j) KL1 FL1 μ' → Q vu μ') : xRM M_X1_init (d + 1) BUD_X1_init [vr n] μ Q := by
  refine xRM_of (by decide) (Nat.le_of_ble_eq_true rfl) ?_
  refine b_X1_init_0 _ _ _ _ ?_
  show k_X1_init_0 d Q (1, 40) [vr n] [] μ
  unfold k_X1_init_0
  refine bo ?_
  refine bi (PO.rf hn hk) (kIn_mem (by decide +kernel)) (fun μ1 h1 => ?_)
  refine bk h1 (kIn_mem (by decide +kernel)) (by decide +kernel) (by decide) (fun μ2 h2 => ?_)
  exact hQ μ2 h2
theorem i_tape (hn : gN μ.1 = n + 1) (hk : gK μ.1 n = some (.inl 2)) (hQ : ∀ μ', PO μ n 2 (μ.2 n) KL2 FL2 μ' → Q vu μ') : xRM M_X2_init (d + 1) BUD_X2_init [vr n] μ Q := by
  refine xRM_of (by decide) (Nat.le_of_ble_eq_true rfl) ?_
  refine b_X2_init_0 _ _ _ _ ?_
  show k_X2_init_0 d Q (1, 160) [vr n] [] μ
  unfold k_X2_init_0
  refine bo ?_
  refine bk (PO.rf hn hk) (kIn_mem (by decide +kernel)) (by decide +kernel) (by decide) (fun μ2 h2 => ?_)
  exact hQ μ2 h2
theorem i_world {tx : Nat} (hn : gN μ.1 = n + 1) (hk : gK μ.1 n = some (.inl 4)) (hQ : ∀ μ', PO μ n 8 (fun j => if j = 1 then 1 else μ.2 n j) KL4 FL4 μ' → gF μ'.1 n 0 = some tx → Q vu μ') : xRM M_X4_init (d + 1) BUD_X4_init [vr n, vr tx] μ Q := by
  refine xRM_of (by decide) (Nat.le_of_ble_eq_true rfl) ?_
  refine b_X4_init_0 _ _ _ _ ?_
  show k_X4_init_0 d Q (7, 40) [vr n, vr tx] [] μ
  unfold k_X4_init_0
  refine bo ?_
  refine bi (PO.rf hn hk) (kIn_mem (by decide +kernel)) (fun μ0 h0 => ?_)
  refine bk h0 (kIn_mem (by decide +kernel)) (by decide +kernel) (by decide) (fun μ1 h1 => ?_)
  refine bk h1 (kIn_mem (by decide +kernel)) (by decide +kernel) (by decide) (fun μ2 h2 => ?_)
  refine bk h2 (kIn_mem (by decide +kernel)) (by decide +kernel) (by decide) (fun μ3 h3 => ?_)
  refine bk h3 (kIn_mem (by decide +kernel)) (by decide +kernel) (by decide) (fun μ4 h4 => ?_)
  refine bk h4 (kIn_mem (by decide +kernel)) (by decide +kernel) (by decide) (fun μ5 h5 => ?_)
  refine bk h5 (kIn_mem (by decide +kernel)) (by decide +kernel) (by decide) (fun μ6 h6 => ?_)
  refine bk h6 (kIn_mem (by decide +kernel)) (by decide +kernel) (by decide) (fun μ7 h7 => ?_)
  show gK μ7.1 n = some (.inl 4) ∧ Q vu (gSetF μ7.1 n 0 (some tx), μ7.2)
  exact ⟨h7.k (o := 0) (kd := .inl 4) (kIn_mem (by decide +kernel)), hQ _ (h7.ref (by decide +kernel)) (if_pos ⟨rfl, rfl⟩)⟩
theorem i_keeper (hn : gN μ.1 = n + 1) (hk : gK μ.1 n = some (.inl 0)) (hQ : ∀ μ', PO μ n 24 (μ.2 n) KL0 FL0 μ' → Q vu μ') : xRM M_X0_init (d + 1) BUD_X0_init [vr n] μ Q := by
  refine xRM_of (by decide) (Nat.le_of_ble_eq_true rfl) ?_
  refine b_X0_init_0 _ _ _ _ ?_
  show k_X0_init_0 d Q (23, 133) [vr n] [] μ
  unfold k_X0_init_0
  refine bo ?_
  refine bm (PO.rf hn hk) (kIn_mem (by decide +kernel)) (by decide +kernel) (by decide) (fun μ1 h1 => ?_)
  refine bm h1 (kIn_mem (by decide +kernel)) (by decide +kernel) (by decide) (fun μ2 h2 => ?_)
  refine bm h2 (kIn_mem (by decide +kernel)) (by decide +kernel) (by decide) (fun μ3 h3 => ?_)
  refine bk h3 (kIn_mem (by decide +kernel)) (by decide +kernel) (by decide) (fun μ4 h4 => ?_)
  refine bk h4 (kIn_mem (by decide +kernel)) (by decide +kernel) (by decide) (fun μ5 h5 => ?_)
  refine bk h5 (kIn_mem (by decide +kernel)) (by decide +kernel) (by decide) (fun μ6 h6 => ?_)
  refine bk h6 (kIn_mem (by decide +kernel)) (by decide +kernel) (by decide) (fun μ7 h7 => ?_)
  refine bk h7 (kIn_mem (by decide +kernel)) (by decide +kernel) (by decide) (fun μ8 h8 => ?_)
  exact hQ μ8 h8
end Ctor
