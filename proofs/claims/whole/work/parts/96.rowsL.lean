/-! ===== the script, an old row; what constructors take of the room ===== -/
section Law
variable {M : xMt} {pc d : Nat} {Q : xV → xMem → Prop} {k : xP}
def x_alenL (k : xP) (b : Nat × Nat) (ls st : List xV) (μ : xMem) : Prop := match st with
  | .inr (.inr (.inr (.inl 0))) :: st => (gS μ.1).1 < 2147483648 ∧ k b ls (vi ((gS μ.1).1 : Int) :: st) μ
  | _ => False
theorem s_alenL (hd : decode M.2.1 pc = .ok (.arraylength, 1)) (hk : Snd M d (pc + 1) Q k) : Snd M d pc Q (x_alenL k) := fun b ls st μ h => by
  match st, h with
  | .inr (.inr (.inr (.inl 0))) :: st, h =>
    obtain ⟨hn, h⟩ := h
    exact xR_go (hk b ls _ μ h) (fun hst _ _ => xok_cons (by constructor <;> omega) (xok_tail hst)) (fun _ _ _ _ _ _ _ _ _ _ _ w _ _ _ _ _ _ hC hS _ _ _ _ kk => by
      obtain ⟨scr, g1, g2, g3, g4, g5⟩ := hS.2.2.2.2.2.2.1.1
      rw [hS.2.2.2.1.2] at g4
      refine W.alen (n := Int32.ofNat (gS μ.1).1) hC.1 hC.2.1 g1 g2 (by rw [g4]) rfl rfl hd ?_
      rw [← Int32.ofInt_eq_ofNat]
      exact kk)
def x_ialoadL (k : xP) (b : Nat × Nat) (ls st : List xV) (μ : xMem) : Prop := match st with
  | .inl j :: .inr (.inr (.inr (.inl 0))) :: st => 0 ≤ j ∧ j < ((gS μ.1).1 : Int) ∧ k b ls (vi ((gS μ.1).2 j.toNat).toInt :: st) μ
  | _ => False
theorem s_ialoadL (hd : decode M.2.1 pc = .ok (.iaload, 1)) (hk : Snd M d (pc + 1) Q k) : Snd M d pc Q (x_ialoadL k) := fun b ls st μ h => by
  match st, h with
  | .inl i :: .inr (.inr (.inr (.inl 0))) :: st, h =>
    obtain ⟨h3, h4, h⟩ := h
    exact xR_go (hk b ls _ μ h) (fun hst _ _ => xok_cons ⟨Int32.le_toInt _, Int32.toInt_lt _⟩ (xok_tail (xok_tail hst))) (fun _ _ _ _ _ _ _ _ _ _ _ w _ _ _ _ _ _ hC hS _ _ _ hst kk => by
      obtain ⟨scr, g1, g2, g3, g4, g5⟩ := hS.2.2.2.2.2.2.1.1
      rw [hS.2.2.2.1.2] at g4 g5
      have hin : vp_in (Int32.ofInt i) (gS μ.1).1 := x_in_of (xok_head hst) h3 h4
      have hc := x_clamp (xok_head hst)
      refine W.iald (v := .int ((gS μ.1).2 i.toNat)) hC.1 hC.2.1 g1 g2 g3 (by rw [g4]; exact hin) (by rw [g5 _ (Nat.not_le.mp fun q => hin (Or.inr q)), hc]) rfl rfl hd ?_
      rw [List.map_cons, show ∀ w g, cV w g (vi ((gS μ.1).2 i.toNat).toInt) = Value.int ((gS μ.1).2 i.toNat) from fun w g => congrArg Value.int (Int32.ofInt_toInt _)] at kk
      exact kk)
end Law
def x_cV9 (M' : xMt) (d ci : Nat) (k : xP) (b : Nat × Nat) (ls st : List xV) (μ : xMem) : Prop := match st with
  | a9 :: a8 :: a7 :: a6 :: a5 :: a4 :: a3 :: a2 :: a1 :: .inr (.inr (.inl (some q))) :: st => st.length ≤ 4 ∧ gK μ.1 q = some (.inl ci) ∧ xRM M' d (0, 0) [vr q, a1, a2, a3, a4, a5, a6, a7, a8, a9] μ (xK k b ls st)
  | _ => False
theorem s_cV9 {M M' : xMt} {d pc ix : Nat} {Q : xV → xMem → Prop} {k : xP} {ci N : Nat} {T : u_T} (hE : xCee M' 9) (hl : Cond.methodLink M.1.cls ix M'.1 ∈ xG) (hi : Cond.instanceMethod M'.1 ∈ xG) (hse : Cond.selects M'.1.cls M'.1 M'.1 ∈ xG) (hcl : xCl ci M'.1.cls T N) (hd : decode M.2.1 pc = .ok (.invokevirtual ix, 3)) (hk : Snd M (d + 1) (pc + 3) Q k) : Snd M (d + 1) pc Q (x_cV9 M' d ci k) := fun b ls st μ h => by
  match st, h with
  | a9 :: a8 :: a7 :: a6 :: a5 :: a4 :: a3 :: a2 :: a1 :: .inr (.inr (.inl (some q))) :: st, h => exact xR_callV (as := [a1, a2, a3, a4, a5, a6, a7, a8, a9]) (bc := (0, 0)) hE hl hi hse hcl hd rfl h.1 h.2.1 ⟨Nat.zero_le _, Nat.zero_le _⟩ h.2.2 (fun r μ' hr => hk b ls _ μ' hr)
/-- cells, elements and fields -/
abbrev BUD_X3_init : Nat × Nat := (3, 195)
abbrev BUD_X1_init : Nat × Nat := (1, 40)
abbrev BUD_X2_init : Nat × Nat := (1, 160)
abbrev BUD_X4_init : Nat × Nat := (7, 40)
abbrev BUD_X0_init : Nat × Nat := (23, 133)
abbrev BUD_X5_init : Nat × Nat := (84, 1847)
abbrev BUD_X6_init : Nat × Nat := (19, 1498)
/-! memory that grows, by its parts -/
theorem gN_push {Γ : xSh} {q : Nat ⊕ (FieldType × Nat)} : gN (gPush Γ q) = gN Γ + 1 := rfl
theorem gK_push {Γ : xSh} {q : Nat ⊕ (FieldType × Nat)} {k : Nat} : gK (gPush Γ q) k = if k = gN Γ then some q else gK Γ k := rfl
theorem gF_push {Γ : xSh} {q : Nat ⊕ (FieldType × Nat)} {k j : Nat} : gF (gPush Γ q) k j = if k = gN Γ then none else gF Γ k j := rfl
theorem gS_push {Γ : xSh} {q : Nat ⊕ (FieldType × Nat)} : gS (gPush Γ q) = gS Γ := rfl
theorem gN_setF {Γ : xSh} {q j : Nat} {r : Option Nat} : gN (gSetF Γ q j r) = gN Γ := rfl
theorem gK_setF {Γ : xSh} {q j k : Nat} {r : Option Nat} : gK (gSetF Γ q j r) k = gK Γ k := rfl
theorem gF_setF {Γ : xSh} {q j k i : Nat} {r : Option Nat} : gF (gSetF Γ q j r) k i = if k = q ∧ i = j then r else gF Γ k i := rfl
theorem gS_setF {Γ : xSh} {q j : Nat} {r : Option Nat} : gS (gSetF Γ q j r) = gS Γ := rfl
theorem gN_mna {Γ : xSh} {n m : Nat} : gN (gMna Γ n m) = gN Γ + 1 + n := rfl
theorem gK_mna {Γ : xSh} {n m k : Nat} : gK (gMna Γ n m) k = if k = gN Γ then some (.inr (.array .int, n)) else if gN Γ < k ∧ k ≤ gN Γ + n then some (.inr (.int, m)) else gK Γ k := rfl
theorem gF_mna {Γ : xSh} {n m k j : Nat} : gF (gMna Γ n m) k j = if k = gN Γ then (if j < n then some (gN Γ + 1 + j) else none) else if gN Γ < k ∧ k ≤ gN Γ + n then none else gF Γ k j := rfl
theorem gS_mna {Γ : xSh} {n m : Nat} : gS (gMna Γ n m) = gS Γ := rfl
/-- cells below n stay; the script too -/
def Gx (n : Nat) (μ μ' : xMem) : Prop := gS μ'.1 = gS μ.1 ∧ ∀ k, k < n → gK μ'.1 k = gK μ.1 k ∧ gF μ'.1 k = gF μ.1 k ∧ μ'.2 k = μ.2 k
theorem Gx.rf {n : Nat} {μ : xMem} : Gx n μ μ := ⟨rfl, fun _ _ => ⟨rfl, rfl, rfl⟩⟩
theorem Gx.tr {n n' : Nat} {μ μ1 μ2 : xMem} (h : Gx n μ μ1) (h' : Gx n' μ1 μ2) (hn : n ≤ n') : Gx n μ μ2 := ⟨h'.1.trans h.1, fun k hk => by
  obtain ⟨a1, a2, a3⟩ := h.2 k hk
  obtain ⟨b1, b2, b3⟩ := h'.2 k (Nat.lt_of_lt_of_le hk hn)
  exact ⟨b1.trans a1, b2.trans a2, b3.trans a3⟩⟩
theorem Gx.push {n : Nat} {μ μ1 : xMem} {q : Nat ⊕ (FieldType × Nat)} (h : Gx n μ μ1) (hn : n ≤ gN μ1.1) : Gx n μ (gPush μ1.1 q, zer2 μ1.2 (gN μ1.1)) := ⟨h.1, fun k hk => by
  obtain ⟨a1, a2, a3⟩ := h.2 k hk
  have ne : k ≠ gN μ1.1 := by omega
  exact ⟨(if_neg ne).trans a1, (funext fun j => if_neg ne : gF (gPush μ1.1 q) k = gF μ1.1 k).trans a2, (funext fun j => if_neg ne : zer2 μ1.2 (gN μ1.1) k = μ1.2 k).trans a3⟩⟩
theorem Gx.mna {n x y : Nat} {μ μ1 : xMem} (h : Gx n μ μ1) (hn : n ≤ gN μ1.1) : Gx n μ (gMna μ1.1 x y, zerM μ1.2 (gN μ1.1) x) := ⟨h.1, fun k hk => by
  obtain ⟨a1, a2, a3⟩ := h.2 k hk
  have ne : k ≠ gN μ1.1 := by omega
  have ne2 : ¬ (gN μ1.1 < k ∧ k ≤ gN μ1.1 + x) := by omega
  have ne3 : ¬ (gN μ1.1 ≤ k ∧ k ≤ gN μ1.1 + x) := by omega
  exact ⟨((if_neg ne).trans (if_neg ne2)).trans a1, (funext fun j => (if_neg ne).trans (if_neg ne2) : gF (gMna μ1.1 x y) k = gF μ1.1 k).trans a2, (funext fun j => if_neg ne3 : zerM μ1.2 (gN μ1.1) x k = μ1.2 k).trans a3⟩⟩
theorem Gx.setF {n q j : Nat} {r : Option Nat} {μ μ1 : xMem} (h : Gx n μ μ1) (hn : n ≤ q) : Gx n μ (gSetF μ1.1 q j r, μ1.2) := ⟨h.1, fun k hk => by
  obtain ⟨a1, a2, a3⟩ := h.2 k hk
  exact ⟨a1, (gSetF_row (by omega)).trans a2, a3⟩⟩
theorem Gx.put {n q j : Nat} {v : Int} {μ μ1 : xMem} (h : Gx n μ μ1) (hn : n ≤ q) : Gx n μ (μ1.1, upd2 μ1.2 q j v) := ⟨h.1, fun k hk => by
  obtain ⟨a1, a2, a3⟩ := h.2 k hk
  exact ⟨a1, a2, (upd2_row (by omega)).trans a3⟩⟩
